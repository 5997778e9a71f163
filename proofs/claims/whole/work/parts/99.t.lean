theorem hdX8_readLaw : yX8_readLaw.cls = RX8 ∧ yX8_readLaw.cls ≠ "java/lang/invoke/MethodHandle" ∧ yX8_readLaw.cls ≠ "java/lang/invoke/VarHandle" ∧ (parseMethodDescriptor yX8_readLaw.desc).map (fun d => d.parameters.length) = some 0 := by decide +kernel
theorem hdX8_readRope : yX8_readRope.cls = RX8 ∧ yX8_readRope.cls ≠ "java/lang/invoke/MethodHandle" ∧ yX8_readRope.cls ≠ "java/lang/invoke/VarHandle" ∧ (parseMethodDescriptor yX8_readRope.desc).map (fun d => d.parameters.length) = some 1 := by decide +kernel
theorem hdX8_readStall : yX8_readStall.cls = RX8 ∧ yX8_readStall.cls ≠ "java/lang/invoke/MethodHandle" ∧ yX8_readStall.cls ≠ "java/lang/invoke/VarHandle" ∧ (parseMethodDescriptor yX8_readStall.desc).map (fun d => d.parameters.length) = some 1 := by decide +kernel
set_option maxRecDepth 100000 in
set_option maxHeartbeats 4000000 in
theorem c_X8_read (l : Launch) (D : va_G) (b0 : Nat) (L : List Nat) (f : Nat → va_E) (oa : Nat → Nat) (C : Nat → Nat → Int32) (mr : Nat) (im : Nat → Option Nat) (mk : Nat) (ad : Nat → Nat) (n : Nat) (g : Nat → Int32) (hm : mk_ok L mk ad n) (hs : mk_sr g n) (ho : ob_ok L oa mk ad n) : hg_Mq l yX8_read wsX8_read ({ frames := 6, cells := 10, slots := 64, locals := 118 }) D b0 L (ob_W D f oa C mr im mk ad n g) [.ref (oa 2)] (fun v u => ∃ mk2 ad2 N, v = (if (cr_all C).1 25 0 = 0 then some mk2 else none) ∧ mk2 ∉ L ∧ (∀ j, j < (cr_all C).2.2.2 + 2 → ad2 j ∉ L) ∧ mk_ok (L ++ N) mk2 ad2 (cr_all C).2.2.2 ∧ u = (L ++ N, mk_F D (ob_W D f oa (cr_all C).1 mr im mk ad n g) mk2 ad2 (cr_all C).2.2.2 (cr_all C).2.1)) 10 64 := by
  refine hg_in_q (cc := cX8_read) (nL := 3) (by decide) rfl (Nat.le_of_ble_eq_true rfl) (fun p e s m args below meth c R Q X hR hend H locs ls w hl => ?_)
  subst hR
  obtain ⟨hx, hb, hml, hown, hts⟩ := id X.1
  have hin : mk_in wsX8_read := ⟨fun w h => List.mem_cons_of_mem _ (List.mem_append_left _ (List.mem_append_left _ (List.mem_append_left _ (List.mem_append_left _ (List.mem_append_right _ h))))), fun w h => List.mem_cons_of_mem _ (List.mem_append_left _ (List.mem_append_left _ (List.mem_append_left _ (List.mem_append_right _ h)))), fun w h => List.mem_cons_of_mem _ (List.mem_append_left _ (List.mem_append_left _ (List.mem_append_right _ h))), fun w h => List.mem_cons_of_mem _ (List.mem_append_left _ (List.mem_append_right _ h)), fun w h => List.mem_cons_of_mem _ (List.mem_append_right _ h)⟩
  have hin3 : ∀ w ∈ wsX30, w ∈ wsX8_read := fun w h => List.mem_cons_of_mem _ (List.mem_append_left _ (List.mem_append_left _ (List.mem_append_left _ (List.mem_append_left _ (List.mem_append_left _ (List.mem_append_right _ h))))))
  have hin8 : ∀ w ∈ wsX80, w ∈ wsX8_read := fun w h => List.mem_cons_of_mem _ (List.mem_append_left _ (List.mem_append_left _ (List.mem_append_left _ (List.mem_append_left _ (List.mem_append_left _ (List.mem_append_left _ (List.mem_append_right _ h)))))))
  have hl : lv_has ls 3 [(0, .ref (oa 2))] := hl
  refine lv_aload_n hx hb dX8_read_0 rfl (lv_at hl 0 rfl) ?_
  refine lv_iconst (v := 0) hx hb dX8_read_1 (by decide) ?_
  refine ob_put X w ho 2 (by decide) (C0 := RX8) (T := TX8) (N := 5) (ci := 6) rfl hin8 tyX8_ok nmX8 rfl 2 (by decide) (List.mem_of_getElem? (i := 1) rfl) rfl rfl rfl (by show _ < 5; decide) 24 0 rfl (ob_o0 _ _ (by decide) 0) dX8_read_2 (fun H locs w => ?_)
  refine lv_aload_n hx hb dX8_read_5 rfl (lv_at hl 0 rfl) ?_
  refine lv_iconst (v := 0) hx hb dX8_read_6 (by decide) ?_
  refine ob_put X w ho 2 (by decide) (C0 := RX8) (T := TX8) (N := 5) (ci := 6) rfl hin8 tyX8_ok nmX8 rfl 3 (by decide) (List.mem_of_getElem? (i := 2) rfl) rfl rfl rfl (by show _ < 5; decide) 25 0 rfl (ob_o0 _ _ (by decide) 0) dX8_read_7 (fun H locs w => ?_)
  refine lv_aload_n hx hb dX8_read_10 rfl (lv_at hl 0 rfl) ?_
  have w : hg_W D b0 L (ob_W D f oa (cr_S0 C) mr im mk ad n g) s.heap H locs := w
  refine hg_vq (As := []) (rest := []) X w (c_X8_readLaw l D b0 L f oa (cr_S0 C) mr im mk ad n g hm hs ho) (cwV 0 hts gX8_read_X8_readLaw rfl rfl rfl hdX8_readLaw ⟨Nat.le_of_ble_eq_true rfl, Nat.le_of_ble_eq_true rfl⟩) (ho.1 2 (by decide)).1 (ow_at ho (k := 2) (by decide)) rfl rfl rfl hl.1 rfl (Nat.le_of_ble_eq_true rfl) dX8_read_11 ⟨(Nat.le_of_ble_eq_true rfl), (Nat.le_of_ble_eq_true rfl)⟩ (fun v0 u0 H locs hp w => ?_)
  obtain ⟨mk2, ad2, N, rfl, hmL, haL, hm2, rfl⟩ := hp
  have hm0 := hm
  have hs0 := hs
  have ho0 := ho
  have w : hg_W D b0 (L ++ N) (ob_W D (mk_F D f mk ad n g) oa (cr_rs (cr_0 C) 0).1 mr im mk2 ad2 0 (cr_rs (cr_0 C) 0).2.1) s.heap H locs := by
    rw [cr_rs_0, cr_0_1, cr_0_2]
    show hg_W D b0 (L ++ N) (mk_F D (ob_F D (mk_F D f mk ad n g) oa (cr_law (cr_S0 C)) mr im) mk2 ad2 0 (mk_g0 (cr_l2 (cr_S0 C)).1 (cr_l4 (cr_S0 C)).1)) s.heap H locs
    rw [ob_mk_comm ho0]
    exact w
  refine (show W p l e _ s m args below meth c H locs _ _ Q (F0 m 14 ls [.ref mk2]) from ?_)
  refine lv_astore_n (lv' := [(1, .ref mk2), (0, .ref (oa 2))]) hx hb dX8_read_14 rfl hl (by decide) rfl (fun ls hl => ?_)
  refine lv_iconst (v := 0) hx hb dX8_read_15 (by decide) ?_
  refine lv_istore_n (lv' := [(2, .int (0)), (1, .ref mk2), (0, .ref (oa 2))]) hx hb dX8_read_16 rfl hl (by decide) rfl (fun ls hl => ?_)
  have n4 : (cr_rs (cr_0 C) 4).2.2.2 = 0 := (cr_rs_n (cr_0 C) 4).trans (cr_0_4 C)
  have fin : ∀ (N : List Nat) (ad2 : Nat → Nat), mk_ok (L ++ N) mk2 ad2 (cr_all C).2.2.2 → (∀ j, j < (cr_all C).2.2.2 + 2 → ad2 j ∉ L) → ∀ (H : Heap) (locs : List Loc) (ls : Array Slot), hg_W D b0 (L ++ N) (ob_W D (mk_F D f mk ad n g) oa (cr_all C).1 mr im mk2 ad2 (cr_all C).2.2.2 (cr_all C).2.1) s.heap H locs → lv_has ls 3 [(0, .ref (oa 2)), (1, .ref mk2)] → W p l e ({ frames := 6, cells := 10, slots := 64, locals := 118 }) s m args below meth c H locs 10 64 Q (F0 m 90 ls []) := by
    have hend2 := hend
    revert hend2
    generalize cr_all C = XX
    intro hend2
    intro N ad2 hm haL H locs ls w hl
    have ho := ob_ok_new (N := N) ho0 hmL haL
    refine lv_aload_n hx hb dX8_read_90 rfl (lv_at hl 0 rfl) ?_
    refine ob_get X w ho 2 (by decide) (C0 := RX8) (T := TX8) (N := 5) (ci := 6) rfl hin8 rfl 3 (by decide) (List.mem_of_getElem? (i := 2) rfl) rfl rfl dX8_read_91 ?_
    refine lv_if_ne (tgt := 101) hx hb dX8_read_94 (by decide) (fun c_94 => ?_) (fun c_94 => ?_)
    · refine lv_null hx hb dX8_read_101 ?_
      have w : hg_W D b0 (L ++ N) (mk_F D (ob_F D (mk_F D f mk ad n g) oa XX.1 mr im) mk2 ad2 XX.2.2.2 XX.2.1) s.heap H locs := w
      rw [ob_mk_comm ho0] at w
      exact hend2 H locs (none) (L ++ N, mk_F D (ob_W D f oa XX.1 mr im mk ad n g) mk2 ad2 XX.2.2.2 XX.2.1) _ ls w ⟨mk2, ad2, N, (if_neg c_94).symm, hmL, haL, hm, rfl⟩ dX8_read_102
    · refine lv_aload_n hx hb dX8_read_97 rfl (lv_at hl 1 rfl) ?_
      refine lv_goto (tgt := 102) hx hb dX8_read_98 (by decide) ?_
      have w : hg_W D b0 (L ++ N) (mk_F D (ob_F D (mk_F D f mk ad n g) oa XX.1 mr im) mk2 ad2 XX.2.2.2 XX.2.1) s.heap H locs := w
      rw [ob_mk_comm ho0] at w
      exact hend2 H locs (some mk2) (L ++ N, mk_F D (ob_W D f oa XX.1 mr im mk ad n g) mk2 ad2 XX.2.2.2 XX.2.1) _ ls w ⟨mk2, ad2, N, (if_pos c_94).symm, hmL, haL, hm, rfl⟩ dX8_read_102
  have loop2 : ∀ (H : Heap) (locs : List Loc) (ls : Array Slot), hg_W D b0 (L ++ N) (ob_W D (mk_F D f mk ad n g) oa (cr_ss (cr_1 C) 0).1 mr im mk2 ad2 (cr_rs (cr_0 C) 4).2.2.2 (cr_ss (cr_1 C) 0).2.1) s.heap H locs → lv_has ls 3 [(0, .ref (oa 2)), (1, .ref mk2)] → W p l e ({ frames := 6, cells := 10, slots := 64, locals := 118 }) s m args below meth c H locs 3 15 Q (F0 m 53 ls []) := by
    have lp : ∀ (n0 k : Nat), k ≤ 7 → 7 + 1 ≤ k + n0 → ∀ (N : List Nat) (ad2 : Nat → Nat), mk_ok (L ++ N) mk2 ad2 (cr_ss (cr_1 C) k).2.2.2 → (∀ j, j < (cr_ss (cr_1 C) k).2.2.2 + 2 → ad2 j ∉ L) → ∀ (H : Heap) (locs : List Loc) (ls : Array Slot), hg_W D b0 (L ++ N) (ob_W D (mk_F D f mk ad n g) oa (cr_ss (cr_1 C) k).1 mr im mk2 ad2 (cr_ss (cr_1 C) k).2.2.2 (cr_ss (cr_1 C) k).2.1) s.heap H locs → lv_has ls 3 [(0, .ref (oa 2)), (1, .ref mk2), (2, .int (nI k))] → W p l e ({ frames := 6, cells := 10, slots := 64, locals := 118 }) s m args below meth c H locs (3 + k) (15 + 7 * k) Q (F0 m 55 ls []) := by
      intro n0
      induction n0 with
      | zero =>
        intro k h1 h2
        exact absurd h2 (by omega)
      | succ n0 ih =>
        intro k hk hn0 N ad2 hm haL H locs ls w hl
        have hJ := cr_I_ss (cr_I_1 C) k
        unfold cr_I at hJ
        have hs := hJ.1
        have ho := ob_ok_new (N := N) ho0 hmL haL
        refine lv_iload_n hx hb dX8_read_55 rfl (lv_at hl 2 rfl) ?_
        refine lv_bipush (v := 6) hx hb dX8_read_56 (by decide) ?_
        refine lv_icmp_gt (tgt := 90) hx hb dX8_read_58 (by decide) (fun c_58 => ?_) (fun c_58 => ?_)
        · have hk : 7 = k := by
            rcases Nat.lt_or_ge k 7 with q | q
            · exact absurd c_58 (nI_nlt (a := 6) (b := k) (by omega) (by omega))
            · omega
          subst hk
          have eE : cr_all C = cr_ss (cr_1 C) 7 := by
            unfold cr_all
            rfl
          refine W.widen (k := 10) (n := 64) (by omega) (by omega) ?_
          exact fin N ad2 (by rw [eE]; exact hm) (by rw [eE]; exact haL) H locs ls (by rw [eE]; exact w) (lv_sub hl [0, 1] rfl)
        · have hkl : k < 7 := by
            rcases Nat.lt_or_ge k 7 with q | q
            · exact q
            · exact absurd (nI_lt (a := 6) (b := k) (by omega) (by omega)) c_58
          refine lv_aload_n hx hb dX8_read_61 rfl (lv_at hl 0 rfl) ?_
          refine ob_get X w ho 2 (by decide) (C0 := RX8) (T := TX8) (N := 5) (ci := 6) rfl hin8 rfl 3 (by decide) (List.mem_of_getElem? (i := 2) rfl) rfl rfl dX8_read_62 ?_
          refine lv_if_ne (tgt := 90) hx hb dX8_read_65 (by decide) (fun c_65 => ?_) (fun c_65 => ?_)
          · have eE : cr_all C = (cr_ss (cr_1 C) k) := by
              unfold cr_all
              have := cr_ss_up (X := cr_1 C) (k := k) (fun z => c_65 z.1) (7 - k)
              rwa [show k + (7 - k) = 7 by omega] at this
            refine W.widen (k := 10) (n := 64) (by omega) (by omega) ?_
            exact fin N ad2 (by rw [eE]; exact hm) (by rw [eE]; exact haL) H locs ls (by rw [eE]; exact w) (lv_sub hl [0, 1] rfl)
          · refine lv_aload_n hx hb dX8_read_68 rfl (lv_at hl 0 rfl) ?_
            refine ob_get X w ho 2 (by decide) (C0 := RX8) (T := TX8) (N := 5) (ci := 6) rfl hin8 rfl 2 (by decide) (List.mem_of_getElem? (i := 1) rfl) rfl rfl dX8_read_69 ?_
            refine lv_aload_n hx hb dX8_read_72 rfl (lv_at hl 0 rfl) ?_
            refine ob_get X w ho 2 (by decide) (C0 := RX8) (T := TX8) (N := 5) (ci := 6) rfl hin8 rfl 1 (by decide) (List.mem_of_getElem? (i := 3) rfl) rfl rfl dX8_read_73 ?_
            refine lv_icmp_ge (tgt := 90) hx hb dX8_read_76 (by decide) (fun c_76 => ?_) (fun c_76 => ?_)
            · have eE : cr_all C = (cr_ss (cr_1 C) k) := by
                unfold cr_all
                have := cr_ss_up (X := cr_1 C) (k := k) (fun z => absurd z.2 (Int32.not_lt.mpr c_76)) (7 - k)
                rwa [show k + (7 - k) = 7 by omega] at this
              refine W.widen (k := 10) (n := 64) (by omega) (by omega) ?_
              exact fin N ad2 (by rw [eE]; exact hm) (by rw [eE]; exact haL) H locs ls (by rw [eE]; exact w) (lv_sub hl [0, 1] rfl)
            · refine lv_aload_n hx hb dX8_read_79 rfl (lv_at hl 0 rfl) ?_
              refine lv_aload_n hx hb dX8_read_80 rfl (lv_at hl 1 rfl) ?_
              refine hg_vv (As := [.ref mk2]) (rest := []) X w (c_X8_readStall l D b0 (L ++ N) (mk_F D f mk ad n g) oa (cr_ss (cr_1 C) k).1 mr im mk2 ad2 (cr_ss (cr_1 C) k).2.2.2 (cr_ss (cr_1 C) k).2.1 hm hs ho) (cwV 1 hts gX8_read_X8_readStall rfl rfl rfl hdX8_readStall ⟨Nat.le_of_ble_eq_true rfl, Nat.le_of_ble_eq_true rfl⟩) (ho.1 2 (by decide)).1 (ow_at ho (k := 2) (by decide)) rfl rfl rfl hl.1 rfl (Nat.le_of_ble_eq_true rfl) dX8_read_81 ⟨by show 3 + k + 1 ≤ 10; omega, by show 15 + 7 * k + 7 ≤ 64; omega⟩ (fun u H locs hp w => ?_)
              have eK := ag_ss_y (X := cr_1 C) (k := k) ⟨c_65, Int32.not_le.mp c_76⟩
              refine (show W p l e _ s m args below meth c H locs (3 + (k + 1)) (15 + 7 * (k + 1)) Q (F0 m 84 ls []) from ?_)
              refine lv_iinc (v := nI k + 1) (lv' := [(2, .int (nI k + 1)), (0, .ref (oa 2)), (1, .ref mk2)]) hx hb dX8_read_84 hl (k := 2) rfl rfl (by decide) rfl (fun ls hl => ?_)
              refine lv_goto (tgt := 55) hx hb dX8_read_87 (by decide) ?_
              have hl := hs_lv hl (k := 0) rfl (nI_1 k)
              rcases hp with ⟨h25, q, hq, rfl⟩ | ⟨h25, rfl⟩
              · have e1 : cr_sg (cr_ss (cr_1 C) k).1 (cr_ss (cr_1 C) k).2.1 (cr_ss (cr_1 C) k).2.2.2 = mk_as (cr_ss (cr_1 C) k).2.1 (cr_ss (cr_1 C) k).2.2.2 (cr_k (cr_ss (cr_1 C) k).1) (cr_c (cr_ss (cr_1 C) k).1 (cr_ss (cr_1 C) k).2.1).1 (cr_e (cr_ss (cr_1 C) k).1 (cr_ss (cr_1 C) k).2.1).1 (cr_h (cr_ss (cr_1 C) k).1 (cr_ss (cr_1 C) k).2.1 (cr_ss (cr_1 C) k).2.2.2).1 := by
                  unfold cr_sg
                  rw [if_pos h25]
                have e2 : cr_sn (cr_ss (cr_1 C) k).1 (cr_ss (cr_1 C) k).2.1 (cr_ss (cr_1 C) k).2.2.2 = (cr_ss (cr_1 C) k).2.2.2 + 1 := by
                  unfold cr_sn
                  rw [if_pos h25]
                exact ih (k + 1) (by omega) (by omega) (N ++ [q]) (va_up ad2 (2 + (cr_ss (cr_1 C) k).2.2.2) q) (by rw [eK, cr_st_4, e2, ← List.append_assoc]; exact mk_ok_grow hm hq) (by
                  rw [eK, cr_st_4, e2]
                  intro j hj
                  by_cases e : j = 2 + (cr_ss (cr_1 C) k).2.2.2
                  · subst e
                    rw [va_up_self]
                    exact fun z => hq (List.mem_append_left _ z)
                  · rw [va_up_ne _ _ e]
                    exact haL j (by omega)) H locs ls (by rw [eK, cr_st_1, cr_st_2, cr_st_4, e1, e2, ← List.append_assoc]; exact w) (lv_sub hl [1, 2, 0] rfl)
              · have e1 : cr_sg (cr_ss (cr_1 C) k).1 (cr_ss (cr_1 C) k).2.1 (cr_ss (cr_1 C) k).2.2.2 = (cr_ss (cr_1 C) k).2.1 := by
                  unfold cr_sg
                  rw [if_neg h25]
                have e2 : cr_sn (cr_ss (cr_1 C) k).1 (cr_ss (cr_1 C) k).2.1 (cr_ss (cr_1 C) k).2.2.2 = (cr_ss (cr_1 C) k).2.2.2 := by
                  unfold cr_sn
                  rw [if_neg h25]
                exact ih (k + 1) (by omega) (by omega) N ad2 (by rw [eK, cr_st_4, e2]; exact hm) (by rw [eK, cr_st_4, e2]; exact haL) H locs ls (by rw [eK, cr_st_1, cr_st_2, cr_st_4, e1, e2]; exact w) (lv_sub hl [1, 2, 0] rfl)
    intro H locs ls w hl
    refine lv_iconst (v := 0) hx hb dX8_read_53 (by decide) ?_
    refine lv_istore_n (lv' := [(2, .int (0)), (0, .ref (oa 2)), (1, .ref mk2)]) hx hb dX8_read_54 rfl hl (by decide) rfl (fun ls hl => ?_)
    exact lp 8 0 (by omega) (by omega) N ad2 (by rw [cr_ss_0, cr_1_e, n4]; exact hm2) (by rw [cr_ss_0, cr_1_e, n4]; exact haL) H locs ls (by rw [cr_ss_0, cr_1_e] at w ⊢; exact w) (lv_sub hl [1, 2, 0] rfl)
  have loop1 : ∀ (n0 k : Nat), k ≤ 4 → 4 + 1 ≤ k + n0 → ∀ (H : Heap) (locs : List Loc) (ls : Array Slot), hg_W D b0 (L ++ N) (ob_W D (mk_F D f mk ad n g) oa (cr_rs (cr_0 C) k).1 mr im mk2 ad2 0 (cr_rs (cr_0 C) k).2.1) s.heap H locs → lv_has ls 3 [(0, .ref (oa 2)), (1, .ref mk2), (2, .int (nI k))] → W p l e ({ frames := 6, cells := 10, slots := 64, locals := 118 }) s m args below meth c H locs 3 15 Q (F0 m 17 ls []) := by
    intro n0
    induction n0 with
    | zero =>
      intro k h1 h2
      exact absurd h2 (by omega)
    | succ n0 ih =>
      intro k hk hn0 H locs ls w hl
      have hJ := cr_I_rs (cr_I_0 C) k
      unfold cr_I at hJ
      have hnn : (cr_rs (cr_0 C) k).2.2.2 = 0 := (cr_rs_n (cr_0 C) k).trans (cr_0_4 C)
      rw [hnn] at hJ
      have hm := hm2
      have hs := hJ.1
      have ho := ob_ok_new (N := N) ho0 hmL haL
      refine lv_iload_n hx hb dX8_read_17 rfl (lv_at hl 2 rfl) ?_
      refine lv_iconst (v := 3) hx hb dX8_read_18 (by decide) ?_
      refine lv_icmp_gt (tgt := 53) hx hb dX8_read_19 (by decide) (fun c_19 => ?_) (fun c_19 => ?_)
      · have hk : 4 = k := by
          rcases Nat.lt_or_ge k 4 with q | q
          · exact absurd c_19 (nI_nlt (a := 3) (b := k) (by omega) (by omega))
          · omega
        subst hk
        exact loop2 H locs ls (by rw [cr_ss_0, cr_1_e, hnn]; exact w) (lv_sub hl [0, 1] rfl)
      · have hkl : k < 4 := by
          rcases Nat.lt_or_ge k 4 with q | q
          · exact q
          · exact absurd (nI_lt (a := 3) (b := k) (by omega) (by omega)) c_19
        refine lv_aload_n hx hb dX8_read_22 rfl (lv_at hl 0 rfl) ?_
        refine ob_get X w ho 2 (by decide) (C0 := RX8) (T := TX8) (N := 5) (ci := 6) rfl hin8 rfl 3 (by decide) (List.mem_of_getElem? (i := 2) rfl) rfl rfl dX8_read_23 ?_
        refine lv_if_ne (tgt := 53) hx hb dX8_read_26 (by decide) (fun c_26 => ?_) (fun c_26 => ?_)
        · have eE : cr_rs (cr_0 C) 4 = (cr_rs (cr_0 C) k) := by have := cr_rs_up (X := cr_0 C) (k := k) (fun z => c_26 z.1) (fun _ => c_26) (4 - k); rwa [show k + (4 - k) = 4 by omega] at this
          exact loop2 H locs ls (by rw [cr_ss_0, cr_1_e, eE, hnn]; exact w) (lv_sub hl [0, 1] rfl)
        · refine lv_iload_n hx hb dX8_read_29 rfl (lv_at hl 2 rfl) ?_
          refine lv_if_eq (tgt := 42) hx hb dX8_read_30 (by decide) (fun c_30 => ?_) (fun c_30 => ?_)
          · refine lv_aload_n hx hb dX8_read_42 rfl (lv_at hl 0 rfl) ?_
            refine lv_aload_n hx hb dX8_read_43 rfl (lv_at hl 1 rfl) ?_
            refine hg_vvF (As := [.ref mk2]) (rest := []) X w (c_X8_readRope l D b0 (L ++ N) (mk_F D f mk ad n g) oa (cr_rs (cr_0 C) k).1 mr im mk2 ad2 0 (cr_rs (cr_0 C) k).2.1 hm hs ho (cr_rs (cr_0 C) k).2.2.1 hJ.2.1 hJ.2.2) (cwV 1 hts gX8_read_X8_readRope rfl rfl rfl hdX8_readRope ⟨Nat.le_of_ble_eq_true rfl, Nat.le_of_ble_eq_true rfl⟩) (ho.1 2 (by decide)).1 (ow_at ho (k := 2) (by decide)) rfl rfl rfl hl.1 rfl (Nat.le_of_ble_eq_true rfl) dX8_read_44 ⟨Nat.zero_le _, Nat.zero_le _⟩ (fun H locs w => ?_)
            refine lv_iinc (v := nI k + 1) (lv' := [(2, .int (nI k + 1)), (0, .ref (oa 2)), (1, .ref mk2)]) hx hb dX8_read_47 hl (k := 2) rfl rfl (by decide) rfl (fun ls hl => ?_)
            refine lv_goto (tgt := 17) hx hb dX8_read_50 (by decide) ?_
            have eK := ag_rs_y (X := cr_0 C) (k := k) ⟨c_26, Or.inl (cr_eq0 (by omega) c_30)⟩
            have hl := hs_lv hl (k := 0) rfl (nI_1 k)
            exact ih (k + 1) (by omega) (by omega) H locs ls (by rw [eK, cr_rp_1, cr_rp_2]; exact w) (lv_sub hl [1, 2, 0] rfl)
          · refine lv_aload_n hx hb dX8_read_33 rfl (lv_at hl 0 rfl) ?_
            refine hg_viF (r := (mk_by ((cr_rs (cr_0 C) k).1) (((cr_rs (cr_0 C) k).1) 24 0))) (As := []) (rest := []) X w (c_X8_next l D b0 (L ++ N) (mk_F D f mk ad n g) oa ((cr_rs (cr_0 C) k).1) mr im mk2 ad2 0 ((cr_rs (cr_0 C) k).2.1) hm hs ho) (cwV 0 hts gX8_read_X8_next rfl rfl rfl hdX8_next ⟨Nat.le_of_ble_eq_true rfl, Nat.le_of_ble_eq_true rfl⟩) (ho.1 2 (by decide)).1 (ow_at ho (k := 2) (by decide)) rfl rfl rfl hl.1 rfl (Nat.le_of_ble_eq_true rfl) dX8_read_34 ⟨Nat.zero_le _, Nat.zero_le _⟩ (fun H locs w => ?_)
            refine lv_bipush (v := 108) hx hb dX8_read_37 (by decide) ?_
            refine lv_icmp_ne (tgt := 53) hx hb dX8_read_39 (by decide) (fun c_39 => ?_) (fun c_39 => ?_)
            · have eE : cr_rs (cr_0 C) 4 = (cr_rs (cr_0 C) k) := by have := cr_rs_up (X := cr_0 C) (k := k) (by rintro ⟨-, z | z⟩; exact c_30 (by rw [z]; rfl); exact c_39 z) (fun z => absurd (by rw [z]; rfl) c_30) (4 - k); rwa [show k + (4 - k) = 4 by omega] at this
              exact loop2 H locs ls (by rw [cr_ss_0, cr_1_e, eE, hnn]; exact w) (lv_sub hl [0, 1] rfl)
            · refine lv_aload_n hx hb dX8_read_42 rfl (lv_at hl 0 rfl) ?_
              refine lv_aload_n hx hb dX8_read_43 rfl (lv_at hl 1 rfl) ?_
              refine hg_vvF (As := [.ref mk2]) (rest := []) X w (c_X8_readRope l D b0 (L ++ N) (mk_F D f mk ad n g) oa (cr_rs (cr_0 C) k).1 mr im mk2 ad2 0 (cr_rs (cr_0 C) k).2.1 hm hs ho (cr_rs (cr_0 C) k).2.2.1 hJ.2.1 hJ.2.2) (cwV 1 hts gX8_read_X8_readRope rfl rfl rfl hdX8_readRope ⟨Nat.le_of_ble_eq_true rfl, Nat.le_of_ble_eq_true rfl⟩) (ho.1 2 (by decide)).1 (ow_at ho (k := 2) (by decide)) rfl rfl rfl hl.1 rfl (Nat.le_of_ble_eq_true rfl) dX8_read_44 ⟨Nat.zero_le _, Nat.zero_le _⟩ (fun H locs w => ?_)
              refine lv_iinc (v := nI k + 1) (lv' := [(2, .int (nI k + 1)), (0, .ref (oa 2)), (1, .ref mk2)]) hx hb dX8_read_47 hl (k := 2) rfl rfl (by decide) rfl (fun ls hl => ?_)
              refine lv_goto (tgt := 17) hx hb dX8_read_50 (by decide) ?_
              have eK := ag_rs_y (X := cr_0 C) (k := k) ⟨c_26, Or.inr c_39⟩
              have hl := hs_lv hl (k := 0) rfl (nI_1 k)
              exact ih (k + 1) (by omega) (by omega) H locs ls (by rw [eK, cr_rp_1, cr_rp_2]; exact w) (lv_sub hl [1, 2, 0] rfl)
  exact loop1 5 0 (by omega) (by omega) H locs ls w (lv_sub hl [2, 1, 0] rfl)
theorem hdX8_read : yX8_read.cls = RX8 ∧ yX8_read.cls ≠ "java/lang/invoke/MethodHandle" ∧ yX8_read.cls ≠ "java/lang/invoke/VarHandle" ∧ (parseMethodDescriptor yX8_read.desc).map (fun d => d.parameters.length) = some 0 := by decide +kernel
set_option maxRecDepth 100000 in
set_option maxHeartbeats 4000000 in
theorem c_X11_market (l : Launch) (D : va_G) (b0 : Nat) (L : List Nat) (f : Nat → va_E) (oa : Nat → Nat) (C : Nat → Nat → Int32) (im : Nat → Option Nat) (mk : Nat) (ad : Nat → Nat) (n : Nat) (g : Nat → Int32) (hm : mk_ok L mk ad n) (hs : mk_sr g n) (ho : ob_ok L oa mk ad n) : hg_Mi l yX11_market wsX11_market ({ frames := 7, cells := 10, slots := 64, locals := 140 }) D b0 L (ob_W D f oa C mk im mk ad n g) [.ref (oa 0)] (fun r u => ∃ mk2 ad2 N, mk2 ∉ L ∧ (∀ j, j < (cr_all C).2.2.2 + 2 → ad2 j ∉ L) ∧ mk_ok (L ++ N) mk2 ad2 (cr_all C).2.2.2 ∧ (((cr_all C).1 25 0 = 0 ∧ r = (cr_all C).2.1 3 ∧ u = (L ++ N, ob_W D (mk_F D f mk ad n g) oa (mo_w (mo_w (cr_all C).1 9 0 0) 1 0 0) mk2 im mk2 ad2 (cr_all C).2.2.2 (cr_all C).2.1)) ∨ (¬ (cr_all C).1 25 0 = 0 ∧ r = -1000100 - (cr_all C).1 26 0 ∧ u = (L ++ N, ob_W D (mk_F D f mk ad n g) oa (mo_w (mo_w (cr_all C).1 9 0 0) 10 0 ((cr_all C).1 25 0)) mk im mk2 ad2 (cr_all C).2.2.2 (cr_all C).2.1)))) 10 64 := by
  refine hg_in_i (cc := cX11_market) (nL := 2) (by decide) rfl (Nat.le_of_ble_eq_true rfl) (fun p e s m args below meth c R Q X hR hend H locs ls w hl => ?_)
  subst hR
  obtain ⟨hx, hb, hml, hown, hts⟩ := id X.1
  have hin : mk_in wsX11_market := ⟨fun w h => List.mem_cons_of_mem _ (List.mem_append_left _ (List.mem_append_left _ (List.mem_append_left _ (List.mem_append_left _ (List.mem_append_right _ h))))), fun w h => List.mem_cons_of_mem _ (List.mem_append_left _ (List.mem_append_left _ (List.mem_append_left _ (List.mem_append_right _ h)))), fun w h => List.mem_cons_of_mem _ (List.mem_append_left _ (List.mem_append_left _ (List.mem_append_right _ h))), fun w h => List.mem_cons_of_mem _ (List.mem_append_left _ (List.mem_append_right _ h)), fun w h => List.mem_cons_of_mem _ (List.mem_append_right _ h)⟩
  have hin3 : ∀ w ∈ wsX30, w ∈ wsX11_market := fun w h => List.mem_cons_of_mem _ (List.mem_append_left _ (List.mem_append_left _ (List.mem_append_left _ (List.mem_append_left _ (List.mem_append_left _ (List.mem_append_right _ h))))))
  have hin8 : ∀ w ∈ wsX80, w ∈ wsX11_market := fun w h => List.mem_cons_of_mem _ (List.mem_append_left _ (List.mem_append_left _ (List.mem_append_left _ (List.mem_append_left _ (List.mem_append_left _ (List.mem_append_left _ (List.mem_append_right _ h)))))))
  have hin11 : ∀ w ∈ wsX110, w ∈ wsX11_market := fun w h => List.mem_cons_of_mem _ (List.mem_append_left _ (List.mem_append_left _ (List.mem_append_left _ (List.mem_append_left _ (List.mem_append_left _ (List.mem_append_left _ (List.mem_append_left _ (List.mem_append_right _ h))))))))
  have hl : lv_has ls 2 [(0, .ref (oa 0))] := hl
  refine lv_aload_n hx hb dX11_market_0 rfl (lv_at hl 0 rfl) ?_
  refine ob_get X w ho 0 (by decide) (C0 := RX11) (T := TX11) (N := 12) (ci := 9) rfl hin11 rfl 1 (by decide) (List.mem_of_getElem? (i := 1) rfl) rfl rfl dX11_market_1 ?_
  refine hg_vq (As := []) (rest := []) X w (c_X8_read l D b0 L f oa C mk im mk ad n g hm hs ho) (cwV 0 hts gX11_market_X8_read rfl rfl rfl hdX8_read ⟨Nat.le_of_ble_eq_true rfl, Nat.le_of_ble_eq_true rfl⟩) (ho.1 2 (by decide)).1 (ow_at ho (k := 2) (by decide)) rfl rfl rfl hl.1 rfl (Nat.le_of_ble_eq_true rfl) dX11_market_4 ⟨(Nat.le_of_ble_eq_true rfl), (Nat.le_of_ble_eq_true rfl)⟩ (fun v0 u0 H locs hp w => ?_)
  obtain ⟨mk2, ad2, N, rfl, hmL, haL, hm2, rfl⟩ := hp
  have ho0 := ho
  have w : hg_W D b0 (L ++ N) (mk_F D (ob_W D f oa (cr_all C).1 mk im mk ad n g) mk2 ad2 (cr_all C).2.2.2 (cr_all C).2.1) s.heap H locs := w
  have w : hg_W D b0 (L ++ N) (ob_W D (mk_F D f mk ad n g) oa (cr_all C).1 mk im mk2 ad2 (cr_all C).2.2.2 (cr_all C).2.1) s.heap H locs := by
    show hg_W D b0 (L ++ N) (mk_F D (ob_F D (mk_F D f mk ad n g) oa (cr_all C).1 mk im) mk2 ad2 (cr_all C).2.2.2 (cr_all C).2.1) s.heap H locs
    rw [ob_mk_comm ho0]
    exact w
  have hm := hm2
  have ho := ob_ok_new (N := N) ho0 hmL haL
  refine (show W p l e _ s m args below meth c H locs 10 64 Q (F0 m 7 ls [va_rf (if (cr_all C).1 25 0 = 0 then some mk2 else none)]) from ?_)
  by_cases h25 : (cr_all C).1 25 0 = 0
  · rw [if_pos h25]
    show W p l e _ s m args below meth c H locs 10 64 Q (F0 m 7 ls [.ref mk2])
    refine lv_astore_n (lv' := [(1, .ref mk2), (0, .ref (oa 0))]) hx hb dX11_market_7 rfl hl (by decide) rfl (fun ls hl => ?_)
    refine lv_aload_n hx hb dX11_market_8 rfl (lv_at hl 1 rfl) ?_
    refine ob_get X w ho 0 (by decide) (C0 := RX11) (T := TX11) (N := 12) (ci := 9) rfl hin11 rfl 1 (by decide) (List.mem_of_getElem? (i := 1) rfl) rfl rfl dX11_market_9 ?_
    refine lv_iconst (v := 0) hx hb dX11_market_12 (by decide) ?_
    refine ob_put X w ho 2 (by decide) (C0 := RX8) (T := TX8) (N := 5) (ci := 6) rfl hin8 tyX8_ok nmX8 rfl 1 (by decide) (List.mem_of_getElem? (i := 2) rfl) rfl rfl rfl (by show _ < 5; decide) 9 0 rfl (ob_o0 _ _ (by decide) 0) dX11_market_13 (fun H locs w => ?_)
    refine lv_aload_n hx hb dX11_market_16 rfl (lv_at hl 0 rfl) ?_
    refine lv_ifnonnull (tgt := 42) hx hb dX11_market_17 (by decide) ?_
    refine lv_aload_n hx hb dX11_market_42 rfl (lv_at hl 1 rfl) ?_
    refine lv_aload_n hx hb dX11_market_43 rfl (lv_at hl 0 rfl) ?_
    refine ob_putm X w ho hin11 (List.mem_of_getElem? (i := 7) rfl) dX11_market_44 (fun H locs w => ?_)
    refine lv_aload_n hx hb dX11_market_47 rfl (lv_at hl 1 rfl) ?_
    refine lv_iconst (v := 0) hx hb dX11_market_48 (by decide) ?_
    refine ob_put X w ho 0 (by decide) (C0 := RX11) (T := TX11) (N := 12) (ci := 9) rfl hin11 tyX11_ok nmX11 rfl 8 (by decide) (List.mem_of_getElem? (i := 8) rfl) rfl rfl rfl (by show _ < 12; decide) 1 0 rfl (ob_o0 _ _ (by decide) 0) dX11_market_49 (fun H locs w => ?_)
    refine lv_aload_n hx hb dX11_market_52 rfl (lv_at hl 0 rfl) ?_
    refine mk_getM X w hm hin3 3 (by decide) (List.mem_of_getElem? (i := 9) rfl) rfl dX11_market_53 ?_
    exact hend H locs ((cr_all C).2.1 3) (L ++ N, ob_W D (mk_F D f mk ad n g) oa (mo_w (mo_w ((cr_all C).1) 9 0 (0)) 1 0 (0)) mk2 im mk2 ad2 (cr_all C).2.2.2 (cr_all C).2.1) _ ls w ⟨mk2, ad2, N, hmL, haL, hm2, Or.inl ⟨h25, rfl, rfl⟩⟩ rfl dX11_market_56
  · rw [if_neg h25]
    show W p l e _ s m args below meth c H locs 10 64 Q (F0 m 7 ls [.null])
    refine lv_astore_nN (lv' := [(1, .null), (0, .ref (oa 0))]) hx hb dX11_market_7 rfl hl (by decide) rfl (fun ls hl => ?_)
    refine lv_aload_n hx hb dX11_market_8 rfl (lv_at hl 1 rfl) ?_
    refine ob_get X w ho 0 (by decide) (C0 := RX11) (T := TX11) (N := 12) (ci := 9) rfl hin11 rfl 1 (by decide) (List.mem_of_getElem? (i := 1) rfl) rfl rfl dX11_market_9 ?_
    refine lv_iconst (v := 0) hx hb dX11_market_12 (by decide) ?_
    refine ob_put X w ho 2 (by decide) (C0 := RX8) (T := TX8) (N := 5) (ci := 6) rfl hin8 tyX8_ok nmX8 rfl 1 (by decide) (List.mem_of_getElem? (i := 2) rfl) rfl rfl rfl (by show _ < 5; decide) 9 0 rfl (ob_o0 _ _ (by decide) 0) dX11_market_13 (fun H locs w => ?_)
    refine lv_aload_nN hx hb dX11_market_16 rfl (lv_at hl 0 rfl) ?_
    refine lv_ifnonnullN hx hb dX11_market_17 ?_
    refine lv_aload_n hx hb dX11_market_20 rfl (lv_at hl 1 rfl) ?_
    refine lv_aload_n hx hb dX11_market_21 rfl (lv_at hl 1 rfl) ?_
    refine ob_get X w ho 0 (by decide) (C0 := RX11) (T := TX11) (N := 12) (ci := 9) rfl hin11 rfl 1 (by decide) (List.mem_of_getElem? (i := 1) rfl) rfl rfl dX11_market_22 ?_
    refine ob_get X w ho 2 (by decide) (C0 := RX8) (T := TX8) (N := 5) (ci := 6) rfl hin8 rfl 3 (by decide) (List.mem_of_getElem? (i := 3) rfl) rfl rfl dX11_market_25 ?_
    refine ob_put X w ho 0 (by decide) (C0 := RX11) (T := TX11) (N := 12) (ci := 9) rfl hin11 tyX11_ok nmX11 rfl 10 (by decide) (List.mem_of_getElem? (i := 4) rfl) rfl rfl rfl (by show _ < 12; decide) 10 0 rfl (ob_o0 _ _ (by decide) 0) dX11_market_28 (fun H locs w => ?_)
    refine lv_ldc (v := (-1000100)) hx hb hown (hts _ (List.mem_of_getElem? (i := 5) rfl)) dX11_market_31 ?_
    refine lv_aload_n hx hb dX11_market_33 rfl (lv_at hl 1 rfl) ?_
    refine ob_get X w ho 0 (by decide) (C0 := RX11) (T := TX11) (N := 12) (ci := 9) rfl hin11 rfl 1 (by decide) (List.mem_of_getElem? (i := 1) rfl) rfl rfl dX11_market_34 ?_
    refine ob_get X w ho 2 (by decide) (C0 := RX8) (T := TX8) (N := 5) (ci := 6) rfl hin8 rfl 4 (by decide) (List.mem_of_getElem? (i := 6) rfl) rfl rfl dX11_market_37 ?_
    refine lv_isub hx hb dX11_market_40 ?_
    exact hend H locs (((-1000100) - (mo_w (mo_w ((cr_all C).1) 9 0 (0)) 10 0 ((mo_w ((cr_all C).1) 9 0 (0)) 25 0)) 26 0)) (L ++ N, ob_W D (mk_F D f mk ad n g) oa (mo_w (mo_w ((cr_all C).1) 9 0 (0)) 10 0 ((mo_w ((cr_all C).1) 9 0 (0)) 25 0)) mk im mk2 ad2 (cr_all C).2.2.2 (cr_all C).2.1) _ ls w ⟨mk2, ad2, N, hmL, haL, hm2, Or.inr ⟨h25, rfl, rfl⟩⟩ rfl dX11_market_41
theorem hdX11_noImage : yX11_noImage.cls ≠ "java/lang/invoke/MethodHandle" ∧ yX11_noImage.cls ≠ "java/lang/invoke/VarHandle" ∧ (parseMethodDescriptor yX11_noImage.desc).map (fun d => d.parameters.length) = some 1 := by decide +kernel
theorem hdX3_twin : yX3_twin.cls = RX3 ∧ yX3_twin.cls ≠ "java/lang/invoke/MethodHandle" ∧ yX3_twin.cls ≠ "java/lang/invoke/VarHandle" ∧ (parseMethodDescriptor yX3_twin.desc).map (fun d => d.parameters.length) = some 0 := by decide +kernel
set_option maxRecDepth 100000 in
set_option maxHeartbeats 4000000 in
theorem c_X11_image (l : Launch) (D : va_G) (b0 : Nat) (L : List Nat) (f : Nat → va_E) (oa : Nat → Nat) (C : Nat → Nat → Int32) (im : Nat → Option Nat) (mk : Nat) (ad : Nat → Nat) (n : Nat) (g : Nat → Int32) (hm : mk_ok L mk ad n) (hs : mk_sr g n) (ho : ob_ok L oa mk ad n) (k : Int32) : hg_Mi l yX11_image wsX11_image ({ frames := 7, cells := 9, slots := 57, locals := 136 }) D b0 L (ob_W D f oa C mk im mk ad n g) [.ref (oa 0), .int (k)] (fun r u => (hs_in k 0 1 = 0 ∧ r = hs_BAD ∧ u = (L, ob_W D f oa C mk im mk ad n g)) ∨ (¬ hs_in k 0 1 = 0 ∧ g 2 = 0 ∧ r = hs_STATE ∧ u = (L, ob_W D f oa C mk im mk ad n g)) ∨ ∃ j, j < 2 ∧ k = nI j ∧ ¬ g 2 = 0 ∧ r = 1 ∧ ∃ mk2 ad2 N, mk2 ∉ L ∧ (∀ i, i < n + 2 → ad2 i ∉ L) ∧ mk_ok (L ++ N) mk2 ad2 n ∧ u = (L ++ N, ob_W D (mk_F D f mk ad n g) oa C mk (va_up im j (some mk2)) mk2 ad2 n g)) 9 57 := by
  refine hg_in_i (cc := cX11_image) (nL := 2) (by decide) rfl (Nat.le_of_ble_eq_true rfl) (fun p e s m args below meth c R Q X hR hend H locs ls w hl => ?_)
  subst hR
  obtain ⟨hx, hb, hml, hown, hts⟩ := id X.1
  have hin : mk_in wsX11_image := ⟨fun w h => List.mem_cons_of_mem _ (List.mem_append_left _ (List.mem_append_left _ (List.mem_append_left _ (List.mem_append_left _ (List.mem_append_right _ h))))), fun w h => List.mem_cons_of_mem _ (List.mem_append_left _ (List.mem_append_left _ (List.mem_append_left _ (List.mem_append_right _ h)))), fun w h => List.mem_cons_of_mem _ (List.mem_append_left _ (List.mem_append_left _ (List.mem_append_right _ h))), fun w h => List.mem_cons_of_mem _ (List.mem_append_left _ (List.mem_append_right _ h)), fun w h => List.mem_cons_of_mem _ (List.mem_append_right _ h)⟩
  have hin3 : ∀ w ∈ wsX30, w ∈ wsX11_image := fun w h => List.mem_cons_of_mem _ (List.mem_append_left _ (List.mem_append_left _ (List.mem_append_left _ (List.mem_append_left _ (List.mem_append_left _ (List.mem_append_right _ h))))))
  have hin11 : ∀ w ∈ wsX110, w ∈ wsX11_image := fun w h => List.mem_cons_of_mem _ (List.mem_append_left _ (List.mem_append_left _ (List.mem_append_left _ (List.mem_append_left _ (List.mem_append_left _ (List.mem_append_left _ (List.mem_append_right _ h)))))))
  have hl : lv_has ls 2 [(0, .ref (oa 0)), (1, .int (k))] := hl
  refine lv_iload_n hx hb dX11_image_0 rfl (lv_at hl 1 rfl) ?_
  refine hg_siF (r := (if hs_in k 0 1 = 0 then 1 else 0)) (As := [.int (k)]) (rest := []) X w (c_X11_noImage l D b0 L f oa C im mk ad n g hm hs ho k) (va_cwS 1 hts gX11_image_X11_noImage rfl rfl rfl hdX11_noImage ⟨Nat.le_of_ble_eq_true rfl, Nat.le_of_ble_eq_true rfl⟩) rfl hl.1 rfl (Nat.le_of_ble_eq_true rfl) dX11_image_1 ⟨Nat.zero_le _, Nat.zero_le _⟩ (fun H locs w => ?_)
  refine lv_if_eq (tgt := 10) hx hb dX11_image_4 (by decide) (fun c_4 => ?_) (fun c_4 => ?_)
  · have hin01 : ¬ hs_in k 0 1 = 0 := fun z => absurd c_4 (by rw [if_pos z]; decide)
    obtain ⟨j, hjj, rfl⟩ := hs_in_j (n := 1) (b := 1) rfl (by decide) hin01
    have hjj : j < 2 := by omega
    refine lv_aload_n hx hb dX11_image_10 rfl (lv_at hl 0 rfl) ?_
    refine hg_viF (r := (if g 2 = 0 then 1 else 0)) (As := []) (rest := []) X w (c_X11_noMarket l D b0 L f oa C im mk ad n g hm hs ho ) (cwV 0 hts gX11_image_X11_noMarket rfl rfl rfl hdX11_noMarket ⟨Nat.le_of_ble_eq_true rfl, Nat.le_of_ble_eq_true rfl⟩) (ho.1 0 (by decide)).1 (ow_at ho (k := 0) (by decide)) rfl rfl rfl hl.1 rfl (Nat.le_of_ble_eq_true rfl) dX11_image_11 ⟨Nat.zero_le _, Nat.zero_le _⟩ (fun H locs w => ?_)
    refine lv_if_eq (tgt := 20) hx hb dX11_image_14 (by decide) (fun c_14 => ?_) (fun c_14 => ?_)
    · refine lv_aload_n hx hb dX11_image_20 rfl (lv_at hl 0 rfl) ?_
      refine ob_get X w ho 0 (by decide) (C0 := RX11) (T := TX11) (N := 12) (ci := 9) rfl hin11 rfl 3 (by decide) (List.mem_of_getElem? (i := 3) rfl) rfl rfl dX11_image_21 ?_
      refine lv_iload_n hx hb dX11_image_24 rfl (lv_at hl 1 rfl) ?_
      refine lv_aload_n hx hb dX11_image_25 rfl (lv_at hl 0 rfl) ?_
      refine ob_get X w ho 0 (by decide) (C0 := RX11) (T := TX11) (N := 12) (ci := 9) rfl hin11 rfl 9 (by decide) (List.mem_of_getElem? (i := 4) rfl) rfl rfl dX11_image_26 ?_
      refine hg_vq (As := []) (rest := [.int (nI j), .ref (oa 6)]) X w (c_X3_twin l D b0 L (ob_F D f oa C mk im) mk ad n g hm hs) (cwV 0 hts gX11_image_X3_twin rfl rfl rfl hdX3_twin ⟨Nat.le_of_ble_eq_true rfl, Nat.le_of_ble_eq_true rfl⟩) hm.1 (mk_at0 D _ mk ad n g) rfl rfl rfl hl.1 rfl (Nat.le_of_ble_eq_true rfl) dX11_image_29 ⟨(Nat.le_of_ble_eq_true rfl), (Nat.le_of_ble_eq_true rfl)⟩ (fun v0 u0 H locs hp w => ?_)
      obtain ⟨mk2, ad2, N, rfl, hmL, haL, hm2, rfl⟩ := hp
      have ho0 := ho
      have w : hg_W D b0 (L ++ N) (mk_F D (ob_W D f oa C mk im mk ad n g) mk2 ad2 n g) s.heap H locs := w
      have w : hg_W D b0 (L ++ N) (ob_W D (mk_F D f mk ad n g) oa C mk im mk2 ad2 n g) s.heap H locs := by
        show hg_W D b0 (L ++ N) (mk_F D (ob_F D (mk_F D f mk ad n g) oa C mk im) mk2 ad2 n g) s.heap H locs
        rw [ob_mk_comm ho0]
        exact w
      have hm := hm2
      have ho := ob_ok_new (N := N) ho0 hmL haL
      refine (show W p l e _ s m args below meth c H locs 9 57 Q (F0 m 32 ls (.ref mk2 :: [.int (nI j), .ref (oa 6)])) from ?_)
      refine ob_ist X w ho hm j rfl hjj dX11_image_32 (fun H locs w => ?_)
      refine lv_iconst (v := 1) hx hb dX11_image_33 (by decide) ?_
      exact hend H locs (1) (L ++ N, ob_W D (mk_F D f mk ad n g) oa C mk (va_up im j (some mk2)) mk2 ad2 n g) _ ls w (Or.inr (Or.inr ⟨j, hjj, rfl, hs_if0 c_14, rfl, mk2, ad2, N, hmL, haL, hm2, rfl⟩)) rfl dX11_image_34
    · refine lv_ldc (v := (-1000002)) hx hb hown (hts _ (List.mem_of_getElem? (i := 2) rfl)) dX11_image_17 ?_
      refine W.widen (k := 9) (n := 57) (by omega) (by omega) ?_
      exact hend H locs (-1000002) (L, ob_W D f oa C mk im mk ad n g) _ ls w (Or.inr (Or.inl ⟨hin01, hs_if1 c_14, rfl, rfl⟩)) rfl dX11_image_19
  · refine lv_ldc (v := (-1000001)) hx hb hown (hts _ (List.mem_of_getElem? (i := 1) rfl)) dX11_image_7 ?_
    refine W.widen (k := 9) (n := 57) (by omega) (by omega) ?_
    exact hend H locs (-1000001) (L, ob_W D f oa C mk im mk ad n g) _ ls w (Or.inl ⟨hs_if1 c_4, rfl, rfl⟩) rfl dX11_image_9
set_option maxRecDepth 100000 in
set_option maxHeartbeats 4000000 in
theorem c_X11_restore (l : Launch) (D : va_G) (b0 : Nat) (L : List Nat) (f : Nat → va_E) (oa : Nat → Nat) (C : Nat → Nat → Int32) (im : Nat → Option Nat) (mk : Nat) (ad : Nat → Nat) (n : Nat) (g : Nat → Int32) (hm : mk_ok L mk ad n) (hs : mk_sr g n) (ho : ob_ok L oa mk ad n) (ai : Nat → Nat → Nat) (ni : Nat → Nat) (gi : Nat → Nat → Int32) (hB : ∀ j, j < 2 → ∀ bi, im j = some bi → mk_ok L bi (ai j) (ni j) ∧ mk_sr (gi j) (ni j) ∧ mk_H D (ob_W D f oa C mk im mk ad n g) bi (ai j) (ni j) (gi j)) (k : Int32) : hg_Mi l yX11_restore wsX11_restore ({ frames := 7, cells := 9, slots := 57, locals := 136 }) D b0 L (ob_W D f oa C mk im mk ad n g) [.ref (oa 0), .int (k)] (fun r u => (hs_in k 0 1 = 0 ∧ r = hs_BAD ∧ u = (L, ob_W D f oa C mk im mk ad n g)) ∨ (∃ j, j < 2 ∧ k = nI j ∧ im j = none ∧ r = hs_STATE ∧ u = (L, ob_W D f oa C mk im mk ad n g)) ∨ ∃ j, j < 2 ∧ ∃ bi, k = nI j ∧ im j = some bi ∧ r = 1 ∧ ∃ mk2 ad2 N, mk2 ∉ L ∧ (∀ i, i < ni j + 2 → ad2 i ∉ L) ∧ mk_ok (L ++ N) mk2 ad2 (ni j) ∧ u = (L ++ N, ob_W D (mk_F D f mk ad n g) oa (mo_w C 1 0 0) mk2 im mk2 ad2 (ni j) (gi j))) 9 57 := by
  refine hg_in_i (cc := cX11_restore) (nL := 3) (by decide) rfl (Nat.le_of_ble_eq_true rfl) (fun p e s m args below meth c R Q X hR hend H locs ls w hl => ?_)
  subst hR
  obtain ⟨hx, hb, hml, hown, hts⟩ := id X.1
  have hin : mk_in wsX11_restore := ⟨fun w h => List.mem_cons_of_mem _ (List.mem_append_left _ (List.mem_append_left _ (List.mem_append_left _ (List.mem_append_left _ (List.mem_append_right _ h))))), fun w h => List.mem_cons_of_mem _ (List.mem_append_left _ (List.mem_append_left _ (List.mem_append_left _ (List.mem_append_right _ h)))), fun w h => List.mem_cons_of_mem _ (List.mem_append_left _ (List.mem_append_left _ (List.mem_append_right _ h))), fun w h => List.mem_cons_of_mem _ (List.mem_append_left _ (List.mem_append_right _ h)), fun w h => List.mem_cons_of_mem _ (List.mem_append_right _ h)⟩
  have hin3 : ∀ w ∈ wsX30, w ∈ wsX11_restore := fun w h => List.mem_cons_of_mem _ (List.mem_append_left _ (List.mem_append_left _ (List.mem_append_left _ (List.mem_append_left _ (List.mem_append_left _ (List.mem_append_right _ h))))))
  have hin11 : ∀ w ∈ wsX110, w ∈ wsX11_restore := fun w h => List.mem_cons_of_mem _ (List.mem_append_left _ (List.mem_append_left _ (List.mem_append_left _ (List.mem_append_left _ (List.mem_append_left _ (List.mem_append_left _ (List.mem_append_right _ h)))))))
  have hl : lv_has ls 3 [(0, .ref (oa 0)), (1, .int (k))] := hl
  refine lv_iload_n hx hb dX11_restore_0 rfl (lv_at hl 1 rfl) ?_
  refine hg_siF (r := (if hs_in k 0 1 = 0 then 1 else 0)) (As := [.int (k)]) (rest := []) X w (c_X11_noImage l D b0 L f oa C im mk ad n g hm hs ho k) (va_cwS 1 hts gX11_restore_X11_noImage rfl rfl rfl hdX11_noImage ⟨Nat.le_of_ble_eq_true rfl, Nat.le_of_ble_eq_true rfl⟩) rfl hl.1 rfl (Nat.le_of_ble_eq_true rfl) dX11_restore_1 ⟨Nat.zero_le _, Nat.zero_le _⟩ (fun H locs w => ?_)
  refine lv_if_eq (tgt := 10) hx hb dX11_restore_4 (by decide) (fun c_4 => ?_) (fun c_4 => ?_)
  · have hin01 : ¬ hs_in k 0 1 = 0 := fun z => absurd c_4 (by rw [if_pos z]; decide)
    obtain ⟨j, hjj, rfl⟩ := hs_in_j (n := 1) (b := 1) rfl (by decide) hin01
    have hjj : j < 2 := by omega
    refine lv_aload_n hx hb dX11_restore_10 rfl (lv_at hl 0 rfl) ?_
    refine ob_get X w ho 0 (by decide) (C0 := RX11) (T := TX11) (N := 12) (ci := 9) rfl hin11 rfl 3 (by decide) (List.mem_of_getElem? (i := 2) rfl) rfl rfl dX11_restore_11 ?_
    refine lv_iload_n hx hb dX11_restore_14 rfl (lv_at hl 1 rfl) ?_
    refine ob_iald X w ho j rfl hjj dX11_restore_15 (fun him => ?_) (fun bi him => ?_)
    · refine lv_astore_nN (lv' := [(2, .null), (0, .ref (oa 0)), (1, .int (nI j))]) hx hb dX11_restore_16 rfl hl (by decide) rfl (fun ls hl => ?_)
      refine lv_aload_nN hx hb dX11_restore_17 rfl (lv_at hl 0 rfl) ?_
      refine lv_ifnonnullN hx hb dX11_restore_18 ?_
      refine lv_ldc (v := (-1000002)) hx hb hown (hts _ (List.mem_of_getElem? (i := 3) rfl)) dX11_restore_21 ?_
      refine W.widen (k := 9) (n := 57) (by omega) (by omega) ?_
      exact hend H locs (-1000002) (L, ob_W D f oa C mk im mk ad n g) _ ls w (Or.inr (Or.inl ⟨j, hjj, rfl, him, rfl, rfl⟩)) rfl dX11_restore_23
    · refine lv_astore_n (lv' := [(2, .ref bi), (0, .ref (oa 0)), (1, .int (nI j))]) hx hb dX11_restore_16 rfl hl (by decide) rfl (fun ls hl => ?_)
      refine lv_aload_n hx hb dX11_restore_17 rfl (lv_at hl 0 rfl) ?_
      refine lv_ifnonnull (tgt := 24) hx hb dX11_restore_18 (by decide) ?_
      refine lv_aload_n hx hb dX11_restore_24 rfl (lv_at hl 1 rfl) ?_
      refine lv_aload_n hx hb dX11_restore_25 rfl (lv_at hl 0 rfl) ?_
      obtain ⟨hB1, hB2, hB3⟩ := hB j hjj bi him
      have hw0 := mk_at0 D (ob_W D f oa C mk im mk ad n g) bi (ai j) (ni j) (gi j)
      have w : hg_W D b0 L (mk_F D (ob_W D f oa C mk im mk ad n g) bi (ai j) (ni j) (gi j)) s.heap H locs := by
        rw [mk_self hB3]
        exact w
      refine hg_vq (As := []) (rest := [.ref (oa 0)]) X w (c_X3_twin l D b0 L (ob_W D f oa C mk im mk ad n g) bi (ai j) (ni j) (gi j) hB1 hB2) (cwV 0 hts gX11_restore_X3_twin rfl rfl rfl hdX3_twin ⟨Nat.le_of_ble_eq_true rfl, Nat.le_of_ble_eq_true rfl⟩) hB1.1 hw0 rfl rfl rfl hl.1 rfl (Nat.le_of_ble_eq_true rfl) dX11_restore_26 ⟨(Nat.le_of_ble_eq_true rfl), (Nat.le_of_ble_eq_true rfl)⟩ (fun v0 u0 H locs hp w => ?_)
      obtain ⟨mk2, ad2, N, rfl, hmL, haL, hm2, rfl⟩ := hp
      have ho0 := ho
      have w : hg_W D b0 (L ++ N) (mk_F D (mk_F D (ob_W D f oa C mk im mk ad n g) bi (ai j) (ni j) (gi j)) mk2 ad2 (ni j) (gi j)) s.heap H locs := w
      rw [mk_self hB3] at w
      have w : hg_W D b0 (L ++ N) (ob_W D (mk_F D f mk ad n g) oa C mk im mk2 ad2 (ni j) (gi j)) s.heap H locs := by
        show hg_W D b0 (L ++ N) (mk_F D (ob_F D (mk_F D f mk ad n g) oa C mk im) mk2 ad2 (ni j) (gi j)) s.heap H locs
        rw [ob_mk_comm ho0]
        exact w
      have hm := hm2
      have ho := ob_ok_new (N := N) ho0 hmL haL
      refine (show W p l e _ s m args below meth c H locs 9 57 Q (F0 m 29 ls (.ref mk2 :: [.ref (oa 0)])) from ?_)
      refine ob_putm X w ho hin11 (List.mem_of_getElem? (i := 4) rfl) dX11_restore_29 (fun H locs w => ?_)
      refine lv_aload_n hx hb dX11_restore_32 rfl (lv_at hl 1 rfl) ?_
      refine lv_iconst (v := 0) hx hb dX11_restore_33 (by decide) ?_
      refine ob_put X w ho 0 (by decide) (C0 := RX11) (T := TX11) (N := 12) (ci := 9) rfl hin11 tyX11_ok nmX11 rfl 8 (by decide) (List.mem_of_getElem? (i := 5) rfl) rfl rfl rfl (by show _ < 12; decide) 1 0 rfl (ob_o0 _ _ (by decide) 0) dX11_restore_34 (fun H locs w => ?_)
      refine lv_iconst (v := 1) hx hb dX11_restore_37 (by decide) ?_
      exact hend H locs (1) (L ++ N, ob_W D (mk_F D f mk ad n g) oa (mo_w C 1 0 0) mk2 im mk2 ad2 (ni j) (gi j)) _ ls w (Or.inr (Or.inr ⟨j, hjj, bi, rfl, him, rfl, mk2, ad2, N, hmL, haL, hm2, rfl⟩)) rfl dX11_restore_38
  · refine lv_ldc (v := (-1000001)) hx hb hown (hts _ (List.mem_of_getElem? (i := 1) rfl)) dX11_restore_7 ?_
    refine W.widen (k := 9) (n := 57) (by omega) (by omega) ?_
    exact hend H locs (-1000001) (L, ob_W D f oa C mk im mk ad n g) _ ls w (Or.inl ⟨hs_if1 c_4, rfl, rfl⟩) rfl dX11_restore_9
theorem hdX5_init : yX5_init.cls ≠ "java/lang/invoke/MethodHandle" ∧ yX5_init.cls ≠ "java/lang/invoke/VarHandle" ∧ (parseMethodDescriptor yX5_init.desc).map (fun d => d.parameters.length) = some 0 := by decide +kernel
theorem hdX8_init : yX8_init.cls ≠ "java/lang/invoke/MethodHandle" ∧ yX8_init.cls ≠ "java/lang/invoke/VarHandle" ∧ (parseMethodDescriptor yX8_init.desc).map (fun d => d.parameters.length) = some 0 := by decide +kernel
theorem hdX9_init : yX9_init.cls ≠ "java/lang/invoke/MethodHandle" ∧ yX9_init.cls ≠ "java/lang/invoke/VarHandle" ∧ (parseMethodDescriptor yX9_init.desc).map (fun d => d.parameters.length) = some 0 := by decide +kernel
set_option maxRecDepth 100000 in
set_option maxHeartbeats 4000000 in
theorem c_X11_init (l : Launch) (D : va_G) (b0 : Nat) (L : List Nat) (f : Nat → va_E) (a : Nat) (ha : a ∈ L) (hf : f a = .inr (9, [.null, .null, .null, .null, .null, .null, .null, .null, .int 0, .null, .int 0, .int 0])) : hg_Mv l yX11_init wsX11_init ({ frames := 2, cells := 29, slots := 628, locals := 34 }) D b0 L (f) [.ref a] (fun u => ∃ N : List Nat, (∀ b ∈ N, b ∉ L) ∧ (a :: N).length = 30 ∧ (a :: N).Nodup ∧ mk_ok (L ++ N) ((a :: N).getD 11 0) (fun j => (a :: N).getD (12 + j) 0) 0 ∧ ob_ok (L ++ N) (fun k => (a :: N).getD (ob_sg k) 0) ((a :: N).getD 11 0) (fun j => (a :: N).getD (12 + j) 0) 0 ∧ u = (L ++ N, ob_W D f (fun k => (a :: N).getD (ob_sg k) 0) ob_C0 ((a :: N).getD 11 0) (fun _ => none) ((a :: N).getD 11 0) (fun j => (a :: N).getD (12 + j) 0) 0 (mk_g0 0 0))) 29 628 := by
  refine hg_in_v (cc := cX11_init) (nL := 2) (by decide) rfl (Nat.le_of_ble_eq_true rfl) (fun p e s m args below meth c R Q X hname hR hend H locs ls w hl => ?_)
  subst hR
  obtain ⟨hx, hb, hml, hown, hts⟩ := id X.1
  have hin3 : ∀ w ∈ wsX30, w ∈ wsX11_init := fun w h => List.mem_cons_of_mem _ (List.mem_append_left _ (List.mem_append_right _ h))
  have hin5 : ∀ w ∈ wsX50, w ∈ wsX11_init := fun w h => List.mem_cons_of_mem _ (List.mem_append_right _ h)
  have hin8 : ∀ w ∈ wsX80, w ∈ wsX11_init := fun w h => List.mem_cons_of_mem _ (List.mem_append_left _ (List.mem_append_left _ (List.mem_append_left _ (List.mem_append_right _ h))))
  have hin9 : ∀ w ∈ wsX90, w ∈ wsX11_init := fun w h => List.mem_cons_of_mem _ (List.mem_append_left _ (List.mem_append_left _ (List.mem_append_right _ h)))
  have hin11 : ∀ w ∈ wsX110, w ∈ wsX11_init := fun w h => List.mem_cons_of_mem _ (List.mem_append_left _ (List.mem_append_left _ (List.mem_append_left _ (List.mem_append_left _ (List.mem_append_right _ h)))))
  have hl : lv_has ls 2 [(0, .ref a)] := hl
  have hnd : [a].Nodup := by simp
  have w : hg_W D b0 (L ++ []) (al_F f [(a, .inr (9, [.null, .null, .null, .null, .null, .null, .null, .null, .int 0, .null, .int 0, .int 0]))]) s.heap H locs := al_start hf w
  refine lv_aload_n hx hb dX11_init_0 rfl (lv_at hl 0 rfl) ?_
  refine W.objInit hx hb hown (hts _ (List.mem_of_getElem? (i := 1) rfl)) (hts _ (List.mem_of_getElem? (i := 2) rfl)) (hts _ (List.mem_of_getElem? (i := 3) rfl)) rfl (by rw [hml]; exact hl.1) rfl dX11_init_1 (Nat.le_of_ble_eq_true rfl) (Nat.le_of_ble_eq_true rfl) ?_
  refine (show W p l e _ s m args below meth c H locs _ _ Q (F0 m 4 ls []) from ?_)
  refine lv_aload_n hx hb dX11_init_4 rfl (lv_at hl 0 rfl) ?_
  refine lv_bipush (v := 8) hx hb dX11_init_5 (by decide) ?_
  refine hg_newR X w 3 (D.1 14) rfl (by decide) 8 rfl (by decide) (List.mem_of_getElem? (i := 4) rfl) (Nat.le_of_ble_eq_true rfl) (Nat.le_of_ble_eq_true rfl) dX11_init_7 (fun q1 H hq1 w => ?_)
  have hnd0 := hnd
  have w : hg_W D b0 (L ++ [q1]) (al_F f [(a, .inr (9, [.null, .null, .null, .null, .null, .null, .null, .null, .int 0, .null, .int 0, .int 0])), (q1, .inl (D.1 14, 8, .inr (.inr (.inr (.inr (fun _ => none))))))]) s.heap H locs := al_grow w (al_notin ha hq1)
  have hnd : [a, q1].Nodup := al_nd hnd0 ha hq1
  refine al_putF (C := RX11) (T := TX11) (N0 := 12) (ci := 9) (ty0 := tyX11) X w hname (List.mem_append_left _ ha) (al_atK hnd (k := 0) (by rfl) (by rfl)) hin11 tyX11_ok nmX11 rfl 0 (by decide) (List.mem_of_getElem? (i := 5) rfl) rfl rfl rfl rfl (by show _ < 12; decide) dX11_init_10 (fun H locs w => ?_)
  have w : hg_W D b0 (L ++ [q1]) (al_F f [(a, .inr (9, [.ref q1, .null, .null, .null, .null, .null, .null, .null, .int 0, .null, .int 0, .int 0])), (q1, .inl (D.1 14, 8, .inr (.inr (.inr (.inr (fun _ => none))))))]) s.heap H locs := al_chgK hnd (k := 0) w (by rfl) (by rfl)
  refine lv_aload_n hx hb dX11_init_13 rfl (lv_at hl 0 rfl) ?_
  refine hg_new X w (C := RX8) (T := TX8) (N := 5) (ci := 6) (ty0 := tyX8) hin8 tyX8_ok rfl (List.mem_of_getElem? (i := 6) rfl) (List.mem_of_getElem? (i := 7) rfl) (List.mem_of_getElem? (i := 8) rfl) (fs := [.null, .int 0, .int 0, .int 0, .int 0]) (fun j hj => by match j, hj with | 0, _ | 1, _ | 2, _ | 3, _ | 4, _ => rfl) (Nat.le_of_ble_eq_true rfl) (Nat.le_of_ble_eq_true rfl) dX11_init_14 (fun q2 H hq2 w => ?_)
  have hnd0 := hnd
  have w : hg_W D b0 (L ++ [q1, q2]) (al_F f [(a, .inr (9, [.ref q1, .null, .null, .null, .null, .null, .null, .null, .int 0, .null, .int 0, .int 0])), (q1, .inl (D.1 14, 8, .inr (.inr (.inr (.inr (fun _ => none)))))), (q2, .inr (6, [.null, .int 0, .int 0, .int 0, .int 0]))]) s.heap H locs := al_grow w (al_notin ha hq2)
  have hnd : [a, q1, q2].Nodup := al_nd hnd0 ha hq2
  refine lv_dup hx hb dX11_init_17 rfl ?_
  refine hg_initN (As := []) (rest := [.ref q2, .ref a]) X w (c_X8_init l D b0 (L ++ [q1, q2]) (al_F f [(a, .inr (9, [.ref q1, .null, .null, .null, .null, .null, .null, .null, .int 0, .null, .int 0, .int 0])), (q1, .inl (D.1 14, 8, .inr (.inr (.inr (.inr (fun _ => none)))))), (q2, .inr (6, [.null, .int 0, .int 0, .int 0, .int 0]))]) q2 (List.mem_append_right _ (List.mem_of_getElem? (i := 1) rfl)) (al_atK hnd (k := 2) (by rfl) (by rfl))) ⟨va_cnB 0 hts ggX11_init_X8_init rfl rfl rfl (X.2.1.2.1 (_, _, _) (List.mem_of_getElem? (i := 0) rfl)) (hts _ (List.mem_of_getElem? (i := 8) rfl)) hdX8_init ⟨Nat.le_of_ble_eq_true rfl, Nat.le_of_ble_eq_true rfl⟩, rfl, hts _ (List.mem_of_getElem? (i := 29) rfl)⟩ rfl hl.1 rfl (Nat.le_of_ble_eq_true rfl) dX11_init_18 ⟨(Nat.le_of_ble_eq_true rfl), (Nat.le_of_ble_eq_true rfl)⟩ (fun u H locs hp w => ?_)
  obtain ⟨q3, hq3, rfl⟩ := hp
  have w : hg_W D b0 (L ++ [q1, q2] ++ [q3]) (va_up (va_up (al_F f [(a, .inr (9, [.ref q1, .null, .null, .null, .null, .null, .null, .null, .int 0, .null, .int 0, .int 0])), (q1, .inl (D.1 14, 8, .inr (.inr (.inr (.inr (fun _ => none)))))), (q2, .inr (6, [.null, .int 0, .int 0, .int 0, .int 0]))]) q2 (.inr (6, [.ref q3, .int 0, .int 0, .int 0, .int 0]))) q3 (.inl (D.1 11, 100, .inl (fun _ => 0)))) s.heap H locs := w
  rw [al_upK hnd (k := 2) (by rfl) (by rfl)] at w
  have hnd0 := hnd
  have w : hg_W D b0 (L ++ [q1, q2, q3]) (al_F f [(a, .inr (9, [.ref q1, .null, .null, .null, .null, .null, .null, .null, .int 0, .null, .int 0, .int 0])), (q1, .inl (D.1 14, 8, .inr (.inr (.inr (.inr (fun _ => none)))))), (q2, .inr (6, [.ref q3, .int 0, .int 0, .int 0, .int 0])), (q3, .inl (D.1 11, 100, .inl (fun _ => 0)))]) s.heap H locs := al_grow w (al_notin ha hq3)
  have hnd : [a, q1, q2, q3].Nodup := al_nd hnd0 ha hq3
  refine (show W p l e _ s m args below meth c H locs _ _ Q (F0 m 21 ls [.ref q2, .ref a]) from ?_)
  refine al_putF (C := RX11) (T := TX11) (N0 := 12) (ci := 9) (ty0 := tyX11) X w hname (List.mem_append_left _ ha) (al_atK hnd (k := 0) (by rfl) (by rfl)) hin11 tyX11_ok nmX11 rfl 1 (by decide) (List.mem_of_getElem? (i := 9) rfl) rfl rfl rfl rfl (by show _ < 12; decide) dX11_init_21 (fun H locs w => ?_)
  have w : hg_W D b0 (L ++ [q1, q2, q3]) (al_F f [(a, .inr (9, [.ref q1, .ref q2, .null, .null, .null, .null, .null, .null, .int 0, .null, .int 0, .int 0])), (q1, .inl (D.1 14, 8, .inr (.inr (.inr (.inr (fun _ => none)))))), (q2, .inr (6, [.ref q3, .int 0, .int 0, .int 0, .int 0])), (q3, .inl (D.1 11, 100, .inl (fun _ => 0)))]) s.heap H locs := al_chgK hnd (k := 0) w (by rfl) (by rfl)
  refine lv_aload_n hx hb dX11_init_24 rfl (lv_at hl 0 rfl) ?_
  refine hg_new X w (C := RX9) (T := TX9) (N := 2) (ci := 7) (ty0 := tyX9) hin9 tyX9_ok rfl (List.mem_of_getElem? (i := 10) rfl) (List.mem_of_getElem? (i := 11) rfl) (List.mem_of_getElem? (i := 12) rfl) (fs := [.null, .int 0]) (fun j hj => by match j, hj with | 0, _ | 1, _ => rfl) (Nat.le_of_ble_eq_true rfl) (Nat.le_of_ble_eq_true rfl) dX11_init_25 (fun q4 H hq4 w => ?_)
  have hnd0 := hnd
  have w : hg_W D b0 (L ++ [q1, q2, q3, q4]) (al_F f [(a, .inr (9, [.ref q1, .ref q2, .null, .null, .null, .null, .null, .null, .int 0, .null, .int 0, .int 0])), (q1, .inl (D.1 14, 8, .inr (.inr (.inr (.inr (fun _ => none)))))), (q2, .inr (6, [.ref q3, .int 0, .int 0, .int 0, .int 0])), (q3, .inl (D.1 11, 100, .inl (fun _ => 0))), (q4, .inr (7, [.null, .int 0]))]) s.heap H locs := al_grow w (al_notin ha hq4)
  have hnd : [a, q1, q2, q3, q4].Nodup := al_nd hnd0 ha hq4
  refine lv_dup hx hb dX11_init_28 rfl ?_
  refine hg_initN (As := []) (rest := [.ref q4, .ref a]) X w (c_X9_init l D b0 (L ++ [q1, q2, q3, q4]) (al_F f [(a, .inr (9, [.ref q1, .ref q2, .null, .null, .null, .null, .null, .null, .int 0, .null, .int 0, .int 0])), (q1, .inl (D.1 14, 8, .inr (.inr (.inr (.inr (fun _ => none)))))), (q2, .inr (6, [.ref q3, .int 0, .int 0, .int 0, .int 0])), (q3, .inl (D.1 11, 100, .inl (fun _ => 0))), (q4, .inr (7, [.null, .int 0]))]) q4 (List.mem_append_right _ (List.mem_of_getElem? (i := 3) rfl)) (al_atK hnd (k := 4) (by rfl) (by rfl))) ⟨va_cnB 0 hts ggX11_init_X9_init rfl rfl rfl (X.2.1.2.1 (_, _, _) (List.mem_of_getElem? (i := 1) rfl)) (hts _ (List.mem_of_getElem? (i := 12) rfl)) hdX9_init ⟨Nat.le_of_ble_eq_true rfl, Nat.le_of_ble_eq_true rfl⟩, rfl, hts _ (List.mem_of_getElem? (i := 37) rfl)⟩ rfl hl.1 rfl (Nat.le_of_ble_eq_true rfl) dX11_init_29 ⟨(Nat.le_of_ble_eq_true rfl), (Nat.le_of_ble_eq_true rfl)⟩ (fun u H locs hp w => ?_)
  obtain ⟨q5, hq5, rfl⟩ := hp
  have w : hg_W D b0 (L ++ [q1, q2, q3, q4] ++ [q5]) (va_up (va_up (al_F f [(a, .inr (9, [.ref q1, .ref q2, .null, .null, .null, .null, .null, .null, .int 0, .null, .int 0, .int 0])), (q1, .inl (D.1 14, 8, .inr (.inr (.inr (.inr (fun _ => none)))))), (q2, .inr (6, [.ref q3, .int 0, .int 0, .int 0, .int 0])), (q3, .inl (D.1 11, 100, .inl (fun _ => 0))), (q4, .inr (7, [.null, .int 0]))]) q4 (.inr (7, [.ref q5, .int 0]))) q5 (.inl (D.1 11, 16, .inl (fun _ => 0)))) s.heap H locs := w
  rw [al_upK hnd (k := 4) (by rfl) (by rfl)] at w
  have hnd0 := hnd
  have w : hg_W D b0 (L ++ [q1, q2, q3, q4, q5]) (al_F f [(a, .inr (9, [.ref q1, .ref q2, .null, .null, .null, .null, .null, .null, .int 0, .null, .int 0, .int 0])), (q1, .inl (D.1 14, 8, .inr (.inr (.inr (.inr (fun _ => none)))))), (q2, .inr (6, [.ref q3, .int 0, .int 0, .int 0, .int 0])), (q3, .inl (D.1 11, 100, .inl (fun _ => 0))), (q4, .inr (7, [.ref q5, .int 0])), (q5, .inl (D.1 11, 16, .inl (fun _ => 0)))]) s.heap H locs := al_grow w (al_notin ha hq5)
  have hnd : [a, q1, q2, q3, q4, q5].Nodup := al_nd hnd0 ha hq5
  refine (show W p l e _ s m args below meth c H locs _ _ Q (F0 m 32 ls [.ref q4, .ref a]) from ?_)
  refine al_putF (C := RX11) (T := TX11) (N0 := 12) (ci := 9) (ty0 := tyX11) X w hname (List.mem_append_left _ ha) (al_atK hnd (k := 0) (by rfl) (by rfl)) hin11 tyX11_ok nmX11 rfl 2 (by decide) (List.mem_of_getElem? (i := 13) rfl) rfl rfl rfl rfl (by show _ < 12; decide) dX11_init_32 (fun H locs w => ?_)
  have w : hg_W D b0 (L ++ [q1, q2, q3, q4, q5]) (al_F f [(a, .inr (9, [.ref q1, .ref q2, .ref q4, .null, .null, .null, .null, .null, .int 0, .null, .int 0, .int 0])), (q1, .inl (D.1 14, 8, .inr (.inr (.inr (.inr (fun _ => none)))))), (q2, .inr (6, [.ref q3, .int 0, .int 0, .int 0, .int 0])), (q3, .inl (D.1 11, 100, .inl (fun _ => 0))), (q4, .inr (7, [.ref q5, .int 0])), (q5, .inl (D.1 11, 16, .inl (fun _ => 0)))]) s.heap H locs := al_chgK hnd (k := 0) w (by rfl) (by rfl)
  refine lv_aload_n hx hb dX11_init_35 rfl (lv_at hl 0 rfl) ?_
  refine lv_iconst (v := 2) hx hb dX11_init_36 (by decide) ?_
  refine hg_newR X w 2 (D.1 13) rfl (by decide) 2 rfl (by decide) (List.mem_of_getElem? (i := 14) rfl) (Nat.le_of_ble_eq_true rfl) (Nat.le_of_ble_eq_true rfl) dX11_init_37 (fun q6 H hq6 w => ?_)
  have hnd0 := hnd
  have w : hg_W D b0 (L ++ [q1, q2, q3, q4, q5, q6]) (al_F f [(a, .inr (9, [.ref q1, .ref q2, .ref q4, .null, .null, .null, .null, .null, .int 0, .null, .int 0, .int 0])), (q1, .inl (D.1 14, 8, .inr (.inr (.inr (.inr (fun _ => none)))))), (q2, .inr (6, [.ref q3, .int 0, .int 0, .int 0, .int 0])), (q3, .inl (D.1 11, 100, .inl (fun _ => 0))), (q4, .inr (7, [.ref q5, .int 0])), (q5, .inl (D.1 11, 16, .inl (fun _ => 0))), (q6, .inl (D.1 13, 2, .inr (.inr (.inr (.inr (fun _ => none))))))]) s.heap H locs := al_grow w (al_notin ha hq6)
  have hnd : [a, q1, q2, q3, q4, q5, q6].Nodup := al_nd hnd0 ha hq6
  refine al_putF (C := RX11) (T := TX11) (N0 := 12) (ci := 9) (ty0 := tyX11) X w hname (List.mem_append_left _ ha) (al_atK hnd (k := 0) (by rfl) (by rfl)) hin11 tyX11_ok nmX11 rfl 3 (by decide) (List.mem_of_getElem? (i := 15) rfl) rfl rfl rfl rfl (by show _ < 12; decide) dX11_init_40 (fun H locs w => ?_)
  have w : hg_W D b0 (L ++ [q1, q2, q3, q4, q5, q6]) (al_F f [(a, .inr (9, [.ref q1, .ref q2, .ref q4, .ref q6, .null, .null, .null, .null, .int 0, .null, .int 0, .int 0])), (q1, .inl (D.1 14, 8, .inr (.inr (.inr (.inr (fun _ => none)))))), (q2, .inr (6, [.ref q3, .int 0, .int 0, .int 0, .int 0])), (q3, .inl (D.1 11, 100, .inl (fun _ => 0))), (q4, .inr (7, [.ref q5, .int 0])), (q5, .inl (D.1 11, 16, .inl (fun _ => 0))), (q6, .inl (D.1 13, 2, .inr (.inr (.inr (.inr (fun _ => none))))))]) s.heap H locs := al_chgK hnd (k := 0) w (by rfl) (by rfl)
  refine lv_aload_n hx hb dX11_init_43 rfl (lv_at hl 0 rfl) ?_
  refine lv_bipush (v := 64) hx hb dX11_init_44 (by decide) ?_
  refine hg_newI2 X w 64 rfl (by decide) (List.mem_of_getElem? (i := 16) rfl) (Nat.le_of_ble_eq_true rfl) (Nat.le_of_ble_eq_true rfl) dX11_init_46 (fun q7 H hq7 w => ?_)
  have hnd0 := hnd
  have w : hg_W D b0 (L ++ [q1, q2, q3, q4, q5, q6, q7]) (al_F f [(a, .inr (9, [.ref q1, .ref q2, .ref q4, .ref q6, .null, .null, .null, .null, .int 0, .null, .int 0, .int 0])), (q1, .inl (D.1 14, 8, .inr (.inr (.inr (.inr (fun _ => none)))))), (q2, .inr (6, [.ref q3, .int 0, .int 0, .int 0, .int 0])), (q3, .inl (D.1 11, 100, .inl (fun _ => 0))), (q4, .inr (7, [.ref q5, .int 0])), (q5, .inl (D.1 11, 16, .inl (fun _ => 0))), (q6, .inl (D.1 13, 2, .inr (.inr (.inr (.inr (fun _ => none)))))), (q7, .inl (D.1 11, 64, .inl (fun _ => 0)))]) s.heap H locs := al_grow w (al_notin ha hq7)
  have hnd : [a, q1, q2, q3, q4, q5, q6, q7].Nodup := al_nd hnd0 ha hq7
  refine al_putF (C := RX11) (T := TX11) (N0 := 12) (ci := 9) (ty0 := tyX11) X w hname (List.mem_append_left _ ha) (al_atK hnd (k := 0) (by rfl) (by rfl)) hin11 tyX11_ok nmX11 rfl 4 (by decide) (List.mem_of_getElem? (i := 17) rfl) rfl rfl rfl rfl (by show _ < 12; decide) dX11_init_48 (fun H locs w => ?_)
  have w : hg_W D b0 (L ++ [q1, q2, q3, q4, q5, q6, q7]) (al_F f [(a, .inr (9, [.ref q1, .ref q2, .ref q4, .ref q6, .ref q7, .null, .null, .null, .int 0, .null, .int 0, .int 0])), (q1, .inl (D.1 14, 8, .inr (.inr (.inr (.inr (fun _ => none)))))), (q2, .inr (6, [.ref q3, .int 0, .int 0, .int 0, .int 0])), (q3, .inl (D.1 11, 100, .inl (fun _ => 0))), (q4, .inr (7, [.ref q5, .int 0])), (q5, .inl (D.1 11, 16, .inl (fun _ => 0))), (q6, .inl (D.1 13, 2, .inr (.inr (.inr (.inr (fun _ => none)))))), (q7, .inl (D.1 11, 64, .inl (fun _ => 0)))]) s.heap H locs := al_chgK hnd (k := 0) w (by rfl) (by rfl)
  refine lv_aload_n hx hb dX11_init_51 rfl (lv_at hl 0 rfl) ?_
  refine lv_bipush (v := 24) hx hb dX11_init_52 (by decide) ?_
  refine hg_newI2 X w 24 rfl (by decide) (List.mem_of_getElem? (i := 16) rfl) (Nat.le_of_ble_eq_true rfl) (Nat.le_of_ble_eq_true rfl) dX11_init_54 (fun q8 H hq8 w => ?_)
  have hnd0 := hnd
  have w : hg_W D b0 (L ++ [q1, q2, q3, q4, q5, q6, q7, q8]) (al_F f [(a, .inr (9, [.ref q1, .ref q2, .ref q4, .ref q6, .ref q7, .null, .null, .null, .int 0, .null, .int 0, .int 0])), (q1, .inl (D.1 14, 8, .inr (.inr (.inr (.inr (fun _ => none)))))), (q2, .inr (6, [.ref q3, .int 0, .int 0, .int 0, .int 0])), (q3, .inl (D.1 11, 100, .inl (fun _ => 0))), (q4, .inr (7, [.ref q5, .int 0])), (q5, .inl (D.1 11, 16, .inl (fun _ => 0))), (q6, .inl (D.1 13, 2, .inr (.inr (.inr (.inr (fun _ => none)))))), (q7, .inl (D.1 11, 64, .inl (fun _ => 0))), (q8, .inl (D.1 11, 24, .inl (fun _ => 0)))]) s.heap H locs := al_grow w (al_notin ha hq8)
  have hnd : [a, q1, q2, q3, q4, q5, q6, q7, q8].Nodup := al_nd hnd0 ha hq8
  refine al_putF (C := RX11) (T := TX11) (N0 := 12) (ci := 9) (ty0 := tyX11) X w hname (List.mem_append_left _ ha) (al_atK hnd (k := 0) (by rfl) (by rfl)) hin11 tyX11_ok nmX11 rfl 5 (by decide) (List.mem_of_getElem? (i := 18) rfl) rfl rfl rfl rfl (by show _ < 12; decide) dX11_init_56 (fun H locs w => ?_)
  have w : hg_W D b0 (L ++ [q1, q2, q3, q4, q5, q6, q7, q8]) (al_F f [(a, .inr (9, [.ref q1, .ref q2, .ref q4, .ref q6, .ref q7, .ref q8, .null, .null, .int 0, .null, .int 0, .int 0])), (q1, .inl (D.1 14, 8, .inr (.inr (.inr (.inr (fun _ => none)))))), (q2, .inr (6, [.ref q3, .int 0, .int 0, .int 0, .int 0])), (q3, .inl (D.1 11, 100, .inl (fun _ => 0))), (q4, .inr (7, [.ref q5, .int 0])), (q5, .inl (D.1 11, 16, .inl (fun _ => 0))), (q6, .inl (D.1 13, 2, .inr (.inr (.inr (.inr (fun _ => none)))))), (q7, .inl (D.1 11, 64, .inl (fun _ => 0))), (q8, .inl (D.1 11, 24, .inl (fun _ => 0)))]) s.heap H locs := al_chgK hnd (k := 0) w (by rfl) (by rfl)
  refine lv_aload_n hx hb dX11_init_59 rfl (lv_at hl 0 rfl) ?_
  refine lv_bipush (v := 24) hx hb dX11_init_60 (by decide) ?_
  refine hg_newI2 X w 24 rfl (by decide) (List.mem_of_getElem? (i := 16) rfl) (Nat.le_of_ble_eq_true rfl) (Nat.le_of_ble_eq_true rfl) dX11_init_62 (fun q9 H hq9 w => ?_)
  have hnd0 := hnd
  have w : hg_W D b0 (L ++ [q1, q2, q3, q4, q5, q6, q7, q8, q9]) (al_F f [(a, .inr (9, [.ref q1, .ref q2, .ref q4, .ref q6, .ref q7, .ref q8, .null, .null, .int 0, .null, .int 0, .int 0])), (q1, .inl (D.1 14, 8, .inr (.inr (.inr (.inr (fun _ => none)))))), (q2, .inr (6, [.ref q3, .int 0, .int 0, .int 0, .int 0])), (q3, .inl (D.1 11, 100, .inl (fun _ => 0))), (q4, .inr (7, [.ref q5, .int 0])), (q5, .inl (D.1 11, 16, .inl (fun _ => 0))), (q6, .inl (D.1 13, 2, .inr (.inr (.inr (.inr (fun _ => none)))))), (q7, .inl (D.1 11, 64, .inl (fun _ => 0))), (q8, .inl (D.1 11, 24, .inl (fun _ => 0))), (q9, .inl (D.1 11, 24, .inl (fun _ => 0)))]) s.heap H locs := al_grow w (al_notin ha hq9)
  have hnd : [a, q1, q2, q3, q4, q5, q6, q7, q8, q9].Nodup := al_nd hnd0 ha hq9
  refine al_putF (C := RX11) (T := TX11) (N0 := 12) (ci := 9) (ty0 := tyX11) X w hname (List.mem_append_left _ ha) (al_atK hnd (k := 0) (by rfl) (by rfl)) hin11 tyX11_ok nmX11 rfl 6 (by decide) (List.mem_of_getElem? (i := 19) rfl) rfl rfl rfl rfl (by show _ < 12; decide) dX11_init_64 (fun H locs w => ?_)
  have w : hg_W D b0 (L ++ [q1, q2, q3, q4, q5, q6, q7, q8, q9]) (al_F f [(a, .inr (9, [.ref q1, .ref q2, .ref q4, .ref q6, .ref q7, .ref q8, .ref q9, .null, .int 0, .null, .int 0, .int 0])), (q1, .inl (D.1 14, 8, .inr (.inr (.inr (.inr (fun _ => none)))))), (q2, .inr (6, [.ref q3, .int 0, .int 0, .int 0, .int 0])), (q3, .inl (D.1 11, 100, .inl (fun _ => 0))), (q4, .inr (7, [.ref q5, .int 0])), (q5, .inl (D.1 11, 16, .inl (fun _ => 0))), (q6, .inl (D.1 13, 2, .inr (.inr (.inr (.inr (fun _ => none)))))), (q7, .inl (D.1 11, 64, .inl (fun _ => 0))), (q8, .inl (D.1 11, 24, .inl (fun _ => 0))), (q9, .inl (D.1 11, 24, .inl (fun _ => 0)))]) s.heap H locs := al_chgK hnd (k := 0) w (by rfl) (by rfl)
  refine lv_aload_n hx hb dX11_init_67 rfl (lv_at hl 0 rfl) ?_
  refine lv_bipush (v := 24) hx hb dX11_init_68 (by decide) ?_
  refine hg_newI2 X w 24 rfl (by decide) (List.mem_of_getElem? (i := 16) rfl) (Nat.le_of_ble_eq_true rfl) (Nat.le_of_ble_eq_true rfl) dX11_init_70 (fun q10 H hq10 w => ?_)
  have hnd0 := hnd
  have w : hg_W D b0 (L ++ [q1, q2, q3, q4, q5, q6, q7, q8, q9, q10]) (al_F f [(a, .inr (9, [.ref q1, .ref q2, .ref q4, .ref q6, .ref q7, .ref q8, .ref q9, .null, .int 0, .null, .int 0, .int 0])), (q1, .inl (D.1 14, 8, .inr (.inr (.inr (.inr (fun _ => none)))))), (q2, .inr (6, [.ref q3, .int 0, .int 0, .int 0, .int 0])), (q3, .inl (D.1 11, 100, .inl (fun _ => 0))), (q4, .inr (7, [.ref q5, .int 0])), (q5, .inl (D.1 11, 16, .inl (fun _ => 0))), (q6, .inl (D.1 13, 2, .inr (.inr (.inr (.inr (fun _ => none)))))), (q7, .inl (D.1 11, 64, .inl (fun _ => 0))), (q8, .inl (D.1 11, 24, .inl (fun _ => 0))), (q9, .inl (D.1 11, 24, .inl (fun _ => 0))), (q10, .inl (D.1 11, 24, .inl (fun _ => 0)))]) s.heap H locs := al_grow w (al_notin ha hq10)
  have hnd : [a, q1, q2, q3, q4, q5, q6, q7, q8, q9, q10].Nodup := al_nd hnd0 ha hq10
  refine al_putF (C := RX11) (T := TX11) (N0 := 12) (ci := 9) (ty0 := tyX11) X w hname (List.mem_append_left _ ha) (al_atK hnd (k := 0) (by rfl) (by rfl)) hin11 tyX11_ok nmX11 rfl 7 (by decide) (List.mem_of_getElem? (i := 20) rfl) rfl rfl rfl rfl (by show _ < 12; decide) dX11_init_72 (fun H locs w => ?_)
  have w : hg_W D b0 (L ++ [q1, q2, q3, q4, q5, q6, q7, q8, q9, q10]) (al_F f [(a, .inr (9, [.ref q1, .ref q2, .ref q4, .ref q6, .ref q7, .ref q8, .ref q9, .ref q10, .int 0, .null, .int 0, .int 0])), (q1, .inl (D.1 14, 8, .inr (.inr (.inr (.inr (fun _ => none)))))), (q2, .inr (6, [.ref q3, .int 0, .int 0, .int 0, .int 0])), (q3, .inl (D.1 11, 100, .inl (fun _ => 0))), (q4, .inr (7, [.ref q5, .int 0])), (q5, .inl (D.1 11, 16, .inl (fun _ => 0))), (q6, .inl (D.1 13, 2, .inr (.inr (.inr (.inr (fun _ => none)))))), (q7, .inl (D.1 11, 64, .inl (fun _ => 0))), (q8, .inl (D.1 11, 24, .inl (fun _ => 0))), (q9, .inl (D.1 11, 24, .inl (fun _ => 0))), (q10, .inl (D.1 11, 24, .inl (fun _ => 0)))]) s.heap H locs := al_chgK hnd (k := 0) w (by rfl) (by rfl)
  refine lv_aload_n hx hb dX11_init_75 rfl (lv_at hl 0 rfl) ?_
  refine lv_iconst (v := 0) hx hb dX11_init_76 (by decide) ?_
  refine hg_put (C := RX11) (T := TX11) (N := 12) (ci := 9) (ty0 := tyX11) X w (List.mem_append_left _ ha) (al_atK hnd (k := 0) (by rfl) (by rfl)) hin11 tyX11_ok nmX11 rfl 8 (by decide) (List.mem_of_getElem? (i := 21) rfl) (Or.inl rfl) rfl rfl rfl (by show _ < 12; decide) dX11_init_77 (fun H locs w => ?_)
  have w : hg_W D b0 (L ++ [q1, q2, q3, q4, q5, q6, q7, q8, q9, q10]) (al_F f [(a, .inr (9, [.ref q1, .ref q2, .ref q4, .ref q6, .ref q7, .ref q8, .ref q9, .ref q10, .int (0), .null, .int 0, .int 0])), (q1, .inl (D.1 14, 8, .inr (.inr (.inr (.inr (fun _ => none)))))), (q2, .inr (6, [.ref q3, .int 0, .int 0, .int 0, .int 0])), (q3, .inl (D.1 11, 100, .inl (fun _ => 0))), (q4, .inr (7, [.ref q5, .int 0])), (q5, .inl (D.1 11, 16, .inl (fun _ => 0))), (q6, .inl (D.1 13, 2, .inr (.inr (.inr (.inr (fun _ => none)))))), (q7, .inl (D.1 11, 64, .inl (fun _ => 0))), (q8, .inl (D.1 11, 24, .inl (fun _ => 0))), (q9, .inl (D.1 11, 24, .inl (fun _ => 0))), (q10, .inl (D.1 11, 24, .inl (fun _ => 0)))]) s.heap H locs := al_chgK hnd (k := 0) w (by rfl) (by rfl)
  refine lv_aload_n hx hb dX11_init_80 rfl (lv_at hl 0 rfl) ?_
  refine hg_new X w (C := RX3) (T := TX3) (N := 6) (ci := 2) (ty0 := tyX3) hin3 tyX3_ok rfl (List.mem_of_getElem? (i := 14) rfl) (List.mem_of_getElem? (i := 22) rfl) (List.mem_of_getElem? (i := 23) rfl) (fs := [.int 0, .int 0, .int 0, .int 0, .null, .null]) (fun j hj => by match j, hj with | 0, _ | 1, _ | 2, _ | 3, _ | 4, _ | 5, _ => rfl) (Nat.le_of_ble_eq_true rfl) (Nat.le_of_ble_eq_true rfl) dX11_init_81 (fun q11 H hq11 w => ?_)
  have hnd0 := hnd
  have w : hg_W D b0 (L ++ [q1, q2, q3, q4, q5, q6, q7, q8, q9, q10, q11]) (al_F f [(a, .inr (9, [.ref q1, .ref q2, .ref q4, .ref q6, .ref q7, .ref q8, .ref q9, .ref q10, .int (0), .null, .int 0, .int 0])), (q1, .inl (D.1 14, 8, .inr (.inr (.inr (.inr (fun _ => none)))))), (q2, .inr (6, [.ref q3, .int 0, .int 0, .int 0, .int 0])), (q3, .inl (D.1 11, 100, .inl (fun _ => 0))), (q4, .inr (7, [.ref q5, .int 0])), (q5, .inl (D.1 11, 16, .inl (fun _ => 0))), (q6, .inl (D.1 13, 2, .inr (.inr (.inr (.inr (fun _ => none)))))), (q7, .inl (D.1 11, 64, .inl (fun _ => 0))), (q8, .inl (D.1 11, 24, .inl (fun _ => 0))), (q9, .inl (D.1 11, 24, .inl (fun _ => 0))), (q10, .inl (D.1 11, 24, .inl (fun _ => 0))), (q11, .inr (2, [.int 0, .int 0, .int 0, .int 0, .null, .null]))]) s.heap H locs := al_grow w (al_notin ha hq11)
  have hnd : [a, q1, q2, q3, q4, q5, q6, q7, q8, q9, q10, q11].Nodup := al_nd hnd0 ha hq11
  refine lv_dup hx hb dX11_init_84 rfl ?_
  refine lv_iconst (v := 0) hx hb dX11_init_85 (by decide) ?_
  refine lv_iconst (v := 0) hx hb dX11_init_86 (by decide) ?_
  refine hg_init (As := [.int (0), .int (0)]) (rest := [.ref q11, .ref a]) X w (c_X3_init l D b0 (L ++ [q1, q2, q3, q4, q5, q6, q7, q8, q9, q10, q11]) (al_F f [(a, .inr (9, [.ref q1, .ref q2, .ref q4, .ref q6, .ref q7, .ref q8, .ref q9, .ref q10, .int (0), .null, .int 0, .int 0])), (q1, .inl (D.1 14, 8, .inr (.inr (.inr (.inr (fun _ => none)))))), (q2, .inr (6, [.ref q3, .int 0, .int 0, .int 0, .int 0])), (q3, .inl (D.1 11, 100, .inl (fun _ => 0))), (q4, .inr (7, [.ref q5, .int 0])), (q5, .inl (D.1 11, 16, .inl (fun _ => 0))), (q6, .inl (D.1 13, 2, .inr (.inr (.inr (.inr (fun _ => none)))))), (q7, .inl (D.1 11, 64, .inl (fun _ => 0))), (q8, .inl (D.1 11, 24, .inl (fun _ => 0))), (q9, .inl (D.1 11, 24, .inl (fun _ => 0))), (q10, .inl (D.1 11, 24, .inl (fun _ => 0))), (q11, .inr (2, [.int 0, .int 0, .int 0, .int 0, .null, .null]))]) q11 (List.mem_append_right _ (List.mem_of_getElem? (i := 10) rfl)) (al_atK hnd (k := 11) (by rfl) (by rfl)) 0 0) (cwI 2 hts ggX11_init_X3_init rfl rfl rfl (hts _ (List.mem_of_getElem? (i := 23) rfl)) (hts _ (List.mem_of_getElem? (i := 42) rfl)) (hts _ (List.mem_of_getElem? (i := 43) rfl)) rfl hdX3_init ⟨Nat.le_of_ble_eq_true rfl, Nat.le_of_ble_eq_true rfl⟩) rfl hl.1 rfl (Nat.le_of_ble_eq_true rfl) dX11_init_87 ⟨(Nat.le_of_ble_eq_true rfl), (Nat.le_of_ble_eq_true rfl)⟩ (fun u H locs hp w => ?_)
  obtain ⟨q12, q13, hq12, hq13, rfl⟩ := hp
  have w : hg_W D b0 (L ++ [q1, q2, q3, q4, q5, q6, q7, q8, q9, q10, q11] ++ [q12, q13]) (va_up (va_up (va_up (al_F f [(a, .inr (9, [.ref q1, .ref q2, .ref q4, .ref q6, .ref q7, .ref q8, .ref q9, .ref q10, .int (0), .null, .int 0, .int 0])), (q1, .inl (D.1 14, 8, .inr (.inr (.inr (.inr (fun _ => none)))))), (q2, .inr (6, [.ref q3, .int 0, .int 0, .int 0, .int 0])), (q3, .inl (D.1 11, 100, .inl (fun _ => 0))), (q4, .inr (7, [.ref q5, .int 0])), (q5, .inl (D.1 11, 16, .inl (fun _ => 0))), (q6, .inl (D.1 13, 2, .inr (.inr (.inr (.inr (fun _ => none)))))), (q7, .inl (D.1 11, 64, .inl (fun _ => 0))), (q8, .inl (D.1 11, 24, .inl (fun _ => 0))), (q9, .inl (D.1 11, 24, .inl (fun _ => 0))), (q10, .inl (D.1 11, 24, .inl (fun _ => 0))), (q11, .inr (2, [.int 0, .int 0, .int 0, .int 0, .null, .null]))]) q11 (.inr (2, [.int 0, .int 0, .int 0, .int 0, .ref q12, .ref q13]))) q12 (.inl (D.1 11, 3, .inl (fun _ => 0)))) q13 (.inl (D.1 15, 6, .inr (.inr (.inr (.inr (fun _ => none))))))) s.heap H locs := w
  rw [al_upK hnd (k := 11) (by rfl) (by rfl)] at w
  rw [show [q12, q13] = [q12] ++ [q13] from rfl, ← List.append_assoc] at w
  have hnd0 := hnd
  rw [al_new (al_notinK (by rfl) (al_notin ha hq12))] at w
  rw [List.append_assoc L _ [q12]] at w
  have w : hg_W D b0 ((L ++ [q1, q2, q3, q4, q5, q6, q7, q8, q9, q10, q11, q12]) ++ [q13]) (va_up (al_F f [(a, .inr (9, [.ref q1, .ref q2, .ref q4, .ref q6, .ref q7, .ref q8, .ref q9, .ref q10, .int (0), .null, .int 0, .int 0])), (q1, .inl (D.1 14, 8, .inr (.inr (.inr (.inr (fun _ => none)))))), (q2, .inr (6, [.ref q3, .int 0, .int 0, .int 0, .int 0])), (q3, .inl (D.1 11, 100, .inl (fun _ => 0))), (q4, .inr (7, [.ref q5, .int 0])), (q5, .inl (D.1 11, 16, .inl (fun _ => 0))), (q6, .inl (D.1 13, 2, .inr (.inr (.inr (.inr (fun _ => none)))))), (q7, .inl (D.1 11, 64, .inl (fun _ => 0))), (q8, .inl (D.1 11, 24, .inl (fun _ => 0))), (q9, .inl (D.1 11, 24, .inl (fun _ => 0))), (q10, .inl (D.1 11, 24, .inl (fun _ => 0))), (q11, .inr (2, [.int 0, .int 0, .int 0, .int 0, .ref q12, .ref q13])), (q12, .inl (D.1 11, 3, .inl (fun _ => 0)))]) q13 (.inl (D.1 15, 6, .inr (.inr (.inr (.inr (fun _ => none))))))) s.heap H locs := w
  have hnd : [a, q1, q2, q3, q4, q5, q6, q7, q8, q9, q10, q11, q12].Nodup := al_nd hnd0 ha hq12
  have hq13 : q13 ∉ L ++ [q1, q2, q3, q4, q5, q6, q7, q8, q9, q10, q11, q12] := by rw [List.append_assoc] at hq13; exact hq13
  have hnd0 := hnd
  have w : hg_W D b0 (L ++ [q1, q2, q3, q4, q5, q6, q7, q8, q9, q10, q11, q12, q13]) (al_F f [(a, .inr (9, [.ref q1, .ref q2, .ref q4, .ref q6, .ref q7, .ref q8, .ref q9, .ref q10, .int (0), .null, .int 0, .int 0])), (q1, .inl (D.1 14, 8, .inr (.inr (.inr (.inr (fun _ => none)))))), (q2, .inr (6, [.ref q3, .int 0, .int 0, .int 0, .int 0])), (q3, .inl (D.1 11, 100, .inl (fun _ => 0))), (q4, .inr (7, [.ref q5, .int 0])), (q5, .inl (D.1 11, 16, .inl (fun _ => 0))), (q6, .inl (D.1 13, 2, .inr (.inr (.inr (.inr (fun _ => none)))))), (q7, .inl (D.1 11, 64, .inl (fun _ => 0))), (q8, .inl (D.1 11, 24, .inl (fun _ => 0))), (q9, .inl (D.1 11, 24, .inl (fun _ => 0))), (q10, .inl (D.1 11, 24, .inl (fun _ => 0))), (q11, .inr (2, [.int 0, .int 0, .int 0, .int 0, .ref q12, .ref q13])), (q12, .inl (D.1 11, 3, .inl (fun _ => 0))), (q13, .inl (D.1 15, 6, .inr (.inr (.inr (.inr (fun _ => none))))))]) s.heap H locs := al_grow w (al_notin ha hq13)
  have hnd : [a, q1, q2, q3, q4, q5, q6, q7, q8, q9, q10, q11, q12, q13].Nodup := al_nd hnd0 ha hq13
  refine (show W p l e _ s m args below meth c H locs _ _ Q (F0 m 90 ls [.ref q11, .ref a]) from ?_)
  refine hg_put (C := RX11) (T := TX11) (N := 12) (ci := 9) (ty0 := tyX11) X w (List.mem_append_left _ ha) (al_atK hnd (k := 0) (by rfl) (by rfl)) hin11 tyX11_ok nmX11 rfl 9 (by decide) (List.mem_of_getElem? (i := 24) rfl) (Or.inl rfl) rfl rfl rfl (by show _ < 12; decide) dX11_init_90 (fun H locs w => ?_)
  have w : hg_W D b0 (L ++ [q1, q2, q3, q4, q5, q6, q7, q8, q9, q10, q11, q12, q13]) (al_F f [(a, .inr (9, [.ref q1, .ref q2, .ref q4, .ref q6, .ref q7, .ref q8, .ref q9, .ref q10, .int (0), .ref q11, .int 0, .int 0])), (q1, .inl (D.1 14, 8, .inr (.inr (.inr (.inr (fun _ => none)))))), (q2, .inr (6, [.ref q3, .int 0, .int 0, .int 0, .int 0])), (q3, .inl (D.1 11, 100, .inl (fun _ => 0))), (q4, .inr (7, [.ref q5, .int 0])), (q5, .inl (D.1 11, 16, .inl (fun _ => 0))), (q6, .inl (D.1 13, 2, .inr (.inr (.inr (.inr (fun _ => none)))))), (q7, .inl (D.1 11, 64, .inl (fun _ => 0))), (q8, .inl (D.1 11, 24, .inl (fun _ => 0))), (q9, .inl (D.1 11, 24, .inl (fun _ => 0))), (q10, .inl (D.1 11, 24, .inl (fun _ => 0))), (q11, .inr (2, [.int 0, .int 0, .int 0, .int 0, .ref q12, .ref q13])), (q12, .inl (D.1 11, 3, .inl (fun _ => 0))), (q13, .inl (D.1 15, 6, .inr (.inr (.inr (.inr (fun _ => none))))))]) s.heap H locs := al_chgK hnd (k := 0) w (by rfl) (by rfl)
  refine lv_aload_n hx hb dX11_init_93 rfl (lv_at hl 0 rfl) ?_
  refine lv_iconst (v := 0) hx hb dX11_init_94 (by decide) ?_
  refine hg_put (C := RX11) (T := TX11) (N := 12) (ci := 9) (ty0 := tyX11) X w (List.mem_append_left _ ha) (al_atK hnd (k := 0) (by rfl) (by rfl)) hin11 tyX11_ok nmX11 rfl 10 (by decide) (List.mem_of_getElem? (i := 25) rfl) (Or.inl rfl) rfl rfl rfl (by show _ < 12; decide) dX11_init_95 (fun H locs w => ?_)
  have w : hg_W D b0 (L ++ [q1, q2, q3, q4, q5, q6, q7, q8, q9, q10, q11, q12, q13]) (al_F f [(a, .inr (9, [.ref q1, .ref q2, .ref q4, .ref q6, .ref q7, .ref q8, .ref q9, .ref q10, .int (0), .ref q11, .int (0), .int 0])), (q1, .inl (D.1 14, 8, .inr (.inr (.inr (.inr (fun _ => none)))))), (q2, .inr (6, [.ref q3, .int 0, .int 0, .int 0, .int 0])), (q3, .inl (D.1 11, 100, .inl (fun _ => 0))), (q4, .inr (7, [.ref q5, .int 0])), (q5, .inl (D.1 11, 16, .inl (fun _ => 0))), (q6, .inl (D.1 13, 2, .inr (.inr (.inr (.inr (fun _ => none)))))), (q7, .inl (D.1 11, 64, .inl (fun _ => 0))), (q8, .inl (D.1 11, 24, .inl (fun _ => 0))), (q9, .inl (D.1 11, 24, .inl (fun _ => 0))), (q10, .inl (D.1 11, 24, .inl (fun _ => 0))), (q11, .inr (2, [.int 0, .int 0, .int 0, .int 0, .ref q12, .ref q13])), (q12, .inl (D.1 11, 3, .inl (fun _ => 0))), (q13, .inl (D.1 15, 6, .inr (.inr (.inr (.inr (fun _ => none))))))]) s.heap H locs := al_chgK hnd (k := 0) w (by rfl) (by rfl)
  refine lv_aload_n hx hb dX11_init_98 rfl (lv_at hl 0 rfl) ?_
  refine lv_iconst (v := 0) hx hb dX11_init_99 (by decide) ?_
  refine hg_put (C := RX11) (T := TX11) (N := 12) (ci := 9) (ty0 := tyX11) X w (List.mem_append_left _ ha) (al_atK hnd (k := 0) (by rfl) (by rfl)) hin11 tyX11_ok nmX11 rfl 11 (by decide) (List.mem_of_getElem? (i := 26) rfl) (Or.inl rfl) rfl rfl rfl (by show _ < 12; decide) dX11_init_100 (fun H locs w => ?_)
  have w : hg_W D b0 (L ++ [q1, q2, q3, q4, q5, q6, q7, q8, q9, q10, q11, q12, q13]) (al_F f [(a, .inr (9, [.ref q1, .ref q2, .ref q4, .ref q6, .ref q7, .ref q8, .ref q9, .ref q10, .int (0), .ref q11, .int (0), .int (0)])), (q1, .inl (D.1 14, 8, .inr (.inr (.inr (.inr (fun _ => none)))))), (q2, .inr (6, [.ref q3, .int 0, .int 0, .int 0, .int 0])), (q3, .inl (D.1 11, 100, .inl (fun _ => 0))), (q4, .inr (7, [.ref q5, .int 0])), (q5, .inl (D.1 11, 16, .inl (fun _ => 0))), (q6, .inl (D.1 13, 2, .inr (.inr (.inr (.inr (fun _ => none)))))), (q7, .inl (D.1 11, 64, .inl (fun _ => 0))), (q8, .inl (D.1 11, 24, .inl (fun _ => 0))), (q9, .inl (D.1 11, 24, .inl (fun _ => 0))), (q10, .inl (D.1 11, 24, .inl (fun _ => 0))), (q11, .inr (2, [.int 0, .int 0, .int 0, .int 0, .ref q12, .ref q13])), (q12, .inl (D.1 11, 3, .inl (fun _ => 0))), (q13, .inl (D.1 15, 6, .inr (.inr (.inr (.inr (fun _ => none))))))]) s.heap H locs := al_chgK hnd (k := 0) w (by rfl) (by rfl)
  refine lv_iconst (v := 0) hx hb dX11_init_103 (by decide) ?_
  refine lv_istore_n (lv' := [(1, .int (0)), (0, .ref a)]) hx hb dX11_init_104 rfl hl (by decide) rfl (fun ls hl => ?_)
  refine lv_iload_n hx hb dX11_init_105 rfl (lv_at hl 0 rfl) ?_
  refine lv_aload_n hx hb dX11_init_106 rfl (lv_at hl 1 rfl) ?_
  refine hg_get (C := RX11) (T := TX11) (N := 12) (ci := 9) X w (List.mem_append_left _ ha) (al_atK hnd (k := 0) (by rfl) (by rfl)) hin11 rfl 0 (by decide) (List.mem_of_getElem? (i := 5) rfl) (Or.inl rfl) rfl dX11_init_107 ?_
  refine hg_alenR X w 3 rfl (List.mem_append_right _ (List.mem_of_getElem? (i := 0) rfl)) (al_atK hnd (k := 1) (by rfl) (by rfl)) dX11_init_110 ?_
  refine lv_icmp_ge (tgt := 133) hx hb dX11_init_111 (by decide) (fun c_111 => ?_) (fun c_111 => ?_)
  · exact absurd c_111 (by decide)
  · refine lv_aload_n hx hb dX11_init_114 rfl (lv_at hl 1 rfl) ?_
    refine hg_get (C := RX11) (T := TX11) (N := 12) (ci := 9) X w (List.mem_append_left _ ha) (al_atK hnd (k := 0) (by rfl) (by rfl)) hin11 rfl 0 (by decide) (List.mem_of_getElem? (i := 5) rfl) (Or.inl rfl) rfl dX11_init_115 ?_
    refine lv_iload_n hx hb dX11_init_118 rfl (lv_at hl 0 rfl) ?_
    refine hg_new X w (C := RX5) (T := TX5) (N := 3) (ci := 4) (ty0 := tyX5) hin5 tyX5_ok rfl (List.mem_of_getElem? (i := 4) rfl) (List.mem_of_getElem? (i := 27) rfl) (List.mem_of_getElem? (i := 28) rfl) (fs := [.int 0, .int 0, .null]) (fun j hj => by match j, hj with | 0, _ | 1, _ | 2, _ => rfl) (Nat.le_of_ble_eq_true rfl) (Nat.le_of_ble_eq_true rfl) dX11_init_119 (fun q14 H hq14 w => ?_)
    have hnd0 := hnd
    have w : hg_W D b0 (L ++ [q1, q2, q3, q4, q5, q6, q7, q8, q9, q10, q11, q12, q13, q14]) (al_F f [(a, .inr (9, [.ref q1, .ref q2, .ref q4, .ref q6, .ref q7, .ref q8, .ref q9, .ref q10, .int (0), .ref q11, .int (0), .int (0)])), (q1, .inl (D.1 14, 8, .inr (.inr (.inr (.inr (fun _ => none)))))), (q2, .inr (6, [.ref q3, .int 0, .int 0, .int 0, .int 0])), (q3, .inl (D.1 11, 100, .inl (fun _ => 0))), (q4, .inr (7, [.ref q5, .int 0])), (q5, .inl (D.1 11, 16, .inl (fun _ => 0))), (q6, .inl (D.1 13, 2, .inr (.inr (.inr (.inr (fun _ => none)))))), (q7, .inl (D.1 11, 64, .inl (fun _ => 0))), (q8, .inl (D.1 11, 24, .inl (fun _ => 0))), (q9, .inl (D.1 11, 24, .inl (fun _ => 0))), (q10, .inl (D.1 11, 24, .inl (fun _ => 0))), (q11, .inr (2, [.int 0, .int 0, .int 0, .int 0, .ref q12, .ref q13])), (q12, .inl (D.1 11, 3, .inl (fun _ => 0))), (q13, .inl (D.1 15, 6, .inr (.inr (.inr (.inr (fun _ => none)))))), (q14, .inr (4, [.int 0, .int 0, .null]))]) s.heap H locs := al_grow w (al_notin ha hq14)
    have hnd : [a, q1, q2, q3, q4, q5, q6, q7, q8, q9, q10, q11, q12, q13, q14].Nodup := al_nd hnd0 ha hq14
    refine lv_dup hx hb dX11_init_122 rfl ?_
    refine hg_initN (As := []) (rest := [.ref q14, .int (0), .ref q1]) X w (c_X5_init l D b0 (L ++ [q1, q2, q3, q4, q5, q6, q7, q8, q9, q10, q11, q12, q13, q14]) (al_F f [(a, .inr (9, [.ref q1, .ref q2, .ref q4, .ref q6, .ref q7, .ref q8, .ref q9, .ref q10, .int (0), .ref q11, .int (0), .int (0)])), (q1, .inl (D.1 14, 8, .inr (.inr (.inr (.inr (fun _ => none)))))), (q2, .inr (6, [.ref q3, .int 0, .int 0, .int 0, .int 0])), (q3, .inl (D.1 11, 100, .inl (fun _ => 0))), (q4, .inr (7, [.ref q5, .int 0])), (q5, .inl (D.1 11, 16, .inl (fun _ => 0))), (q6, .inl (D.1 13, 2, .inr (.inr (.inr (.inr (fun _ => none)))))), (q7, .inl (D.1 11, 64, .inl (fun _ => 0))), (q8, .inl (D.1 11, 24, .inl (fun _ => 0))), (q9, .inl (D.1 11, 24, .inl (fun _ => 0))), (q10, .inl (D.1 11, 24, .inl (fun _ => 0))), (q11, .inr (2, [.int 0, .int 0, .int 0, .int 0, .ref q12, .ref q13])), (q12, .inl (D.1 11, 3, .inl (fun _ => 0))), (q13, .inl (D.1 15, 6, .inr (.inr (.inr (.inr (fun _ => none)))))), (q14, .inr (4, [.int 0, .int 0, .null]))]) q14 (List.mem_append_right _ (List.mem_of_getElem? (i := 13) rfl)) (al_atK hnd (k := 14) (by rfl) (by rfl))) ⟨va_cnB 0 hts ggX11_init_X5_init rfl rfl rfl (X.2.1.2.1 (_, _, _) (List.mem_of_getElem? (i := 2) rfl)) (hts _ (List.mem_of_getElem? (i := 28) rfl)) hdX5_init ⟨Nat.le_of_ble_eq_true rfl, Nat.le_of_ble_eq_true rfl⟩, rfl, hts _ (List.mem_of_getElem? (i := 53) rfl)⟩ rfl hl.1 rfl (Nat.le_of_ble_eq_true rfl) dX11_init_123 ⟨(Nat.le_of_ble_eq_true rfl), (Nat.le_of_ble_eq_true rfl)⟩ (fun u H locs hp w => ?_)
    obtain ⟨q15, hq15, rfl⟩ := hp
    have w : hg_W D b0 (L ++ [q1, q2, q3, q4, q5, q6, q7, q8, q9, q10, q11, q12, q13, q14] ++ [q15]) (va_up (va_up (al_F f [(a, .inr (9, [.ref q1, .ref q2, .ref q4, .ref q6, .ref q7, .ref q8, .ref q9, .ref q10, .int (0), .ref q11, .int (0), .int (0)])), (q1, .inl (D.1 14, 8, .inr (.inr (.inr (.inr (fun _ => none)))))), (q2, .inr (6, [.ref q3, .int 0, .int 0, .int 0, .int 0])), (q3, .inl (D.1 11, 100, .inl (fun _ => 0))), (q4, .inr (7, [.ref q5, .int 0])), (q5, .inl (D.1 11, 16, .inl (fun _ => 0))), (q6, .inl (D.1 13, 2, .inr (.inr (.inr (.inr (fun _ => none)))))), (q7, .inl (D.1 11, 64, .inl (fun _ => 0))), (q8, .inl (D.1 11, 24, .inl (fun _ => 0))), (q9, .inl (D.1 11, 24, .inl (fun _ => 0))), (q10, .inl (D.1 11, 24, .inl (fun _ => 0))), (q11, .inr (2, [.int 0, .int 0, .int 0, .int 0, .ref q12, .ref q13])), (q12, .inl (D.1 11, 3, .inl (fun _ => 0))), (q13, .inl (D.1 15, 6, .inr (.inr (.inr (.inr (fun _ => none)))))), (q14, .inr (4, [.int 0, .int 0, .null]))]) q14 (.inr (4, [.int (-1), .int 0, .ref q15]))) q15 (.inl (D.1 11, 40, .inl (fun _ => 0)))) s.heap H locs := w
    rw [al_upK hnd (k := 14) (by rfl) (by rfl)] at w
    have hnd0 := hnd
    have w : hg_W D b0 (L ++ [q1, q2, q3, q4, q5, q6, q7, q8, q9, q10, q11, q12, q13, q14, q15]) (al_F f [(a, .inr (9, [.ref q1, .ref q2, .ref q4, .ref q6, .ref q7, .ref q8, .ref q9, .ref q10, .int (0), .ref q11, .int (0), .int (0)])), (q1, .inl (D.1 14, 8, .inr (.inr (.inr (.inr (fun _ => none)))))), (q2, .inr (6, [.ref q3, .int 0, .int 0, .int 0, .int 0])), (q3, .inl (D.1 11, 100, .inl (fun _ => 0))), (q4, .inr (7, [.ref q5, .int 0])), (q5, .inl (D.1 11, 16, .inl (fun _ => 0))), (q6, .inl (D.1 13, 2, .inr (.inr (.inr (.inr (fun _ => none)))))), (q7, .inl (D.1 11, 64, .inl (fun _ => 0))), (q8, .inl (D.1 11, 24, .inl (fun _ => 0))), (q9, .inl (D.1 11, 24, .inl (fun _ => 0))), (q10, .inl (D.1 11, 24, .inl (fun _ => 0))), (q11, .inr (2, [.int 0, .int 0, .int 0, .int 0, .ref q12, .ref q13])), (q12, .inl (D.1 11, 3, .inl (fun _ => 0))), (q13, .inl (D.1 15, 6, .inr (.inr (.inr (.inr (fun _ => none)))))), (q14, .inr (4, [.int (-1), .int 0, .ref q15])), (q15, .inl (D.1 11, 40, .inl (fun _ => 0)))]) s.heap H locs := al_grow w (al_notin ha hq15)
    have hnd : [a, q1, q2, q3, q4, q5, q6, q7, q8, q9, q10, q11, q12, q13, q14, q15].Nodup := al_nd hnd0 ha hq15
    refine (show W p l e _ s m args below meth c H locs _ _ Q (F0 m 126 ls [.ref q14, .int (0), .ref q1]) from ?_)
    refine hg_aast X w 3 rfl (List.mem_append_right _ (List.mem_of_getElem? (i := 0) rfl)) (al_atK hnd (k := 1) (by rfl) (by rfl)) (List.mem_append_right _ (List.mem_of_getElem? (i := 13) rfl)) (al_atK hnd (k := 14) (by rfl) (by rfl)) rfl (Or.inr rfl) 0 rfl (by decide) (by decide) dX11_init_126 (fun H locs w => ?_)
    have w : hg_W D b0 (L ++ [q1, q2, q3, q4, q5, q6, q7, q8, q9, q10, q11, q12, q13, q14, q15]) (al_F f [(a, .inr (9, [.ref q1, .ref q2, .ref q4, .ref q6, .ref q7, .ref q8, .ref q9, .ref q10, .int (0), .ref q11, .int (0), .int (0)])), (q1, .inl (D.1 14, 8, .inr (.inr (.inr (.inr (va_up (fun _ => none) 0 (some q14))))))), (q2, .inr (6, [.ref q3, .int 0, .int 0, .int 0, .int 0])), (q3, .inl (D.1 11, 100, .inl (fun _ => 0))), (q4, .inr (7, [.ref q5, .int 0])), (q5, .inl (D.1 11, 16, .inl (fun _ => 0))), (q6, .inl (D.1 13, 2, .inr (.inr (.inr (.inr (fun _ => none)))))), (q7, .inl (D.1 11, 64, .inl (fun _ => 0))), (q8, .inl (D.1 11, 24, .inl (fun _ => 0))), (q9, .inl (D.1 11, 24, .inl (fun _ => 0))), (q10, .inl (D.1 11, 24, .inl (fun _ => 0))), (q11, .inr (2, [.int 0, .int 0, .int 0, .int 0, .ref q12, .ref q13])), (q12, .inl (D.1 11, 3, .inl (fun _ => 0))), (q13, .inl (D.1 15, 6, .inr (.inr (.inr (.inr (fun _ => none)))))), (q14, .inr (4, [.int (-1), .int 0, .ref q15])), (q15, .inl (D.1 11, 40, .inl (fun _ => 0)))]) s.heap H locs := al_chgK hnd (k := 1) w (by rfl) (by rfl)
    refine lv_iinc (v := 0 + 1) (lv' := [(1, .int (0 + 1)), (0, .ref a)]) hx hb dX11_init_127 hl (k := 0) rfl rfl (by decide) rfl (fun ls hl => ?_)
    refine lv_goto (tgt := 105) hx hb dX11_init_130 (by decide) ?_
    refine lv_iload_n hx hb dX11_init_105 rfl (lv_at hl 0 rfl) ?_
    refine lv_aload_n hx hb dX11_init_106 rfl (lv_at hl 1 rfl) ?_
    refine hg_get (C := RX11) (T := TX11) (N := 12) (ci := 9) X w (List.mem_append_left _ ha) (al_atK hnd (k := 0) (by rfl) (by rfl)) hin11 rfl 0 (by decide) (List.mem_of_getElem? (i := 5) rfl) (Or.inl rfl) rfl dX11_init_107 ?_
    refine hg_alenR X w 3 rfl (List.mem_append_right _ (List.mem_of_getElem? (i := 0) rfl)) (al_atK hnd (k := 1) (by rfl) (by rfl)) dX11_init_110 ?_
    refine lv_icmp_ge (tgt := 133) hx hb dX11_init_111 (by decide) (fun c_111 => ?_) (fun c_111 => ?_)
    · exact absurd c_111 (by decide)
    · refine lv_aload_n hx hb dX11_init_114 rfl (lv_at hl 1 rfl) ?_
      refine hg_get (C := RX11) (T := TX11) (N := 12) (ci := 9) X w (List.mem_append_left _ ha) (al_atK hnd (k := 0) (by rfl) (by rfl)) hin11 rfl 0 (by decide) (List.mem_of_getElem? (i := 5) rfl) (Or.inl rfl) rfl dX11_init_115 ?_
      refine lv_iload_n hx hb dX11_init_118 rfl (lv_at hl 0 rfl) ?_
      refine hg_new X w (C := RX5) (T := TX5) (N := 3) (ci := 4) (ty0 := tyX5) hin5 tyX5_ok rfl (List.mem_of_getElem? (i := 4) rfl) (List.mem_of_getElem? (i := 27) rfl) (List.mem_of_getElem? (i := 28) rfl) (fs := [.int 0, .int 0, .null]) (fun j hj => by match j, hj with | 0, _ | 1, _ | 2, _ => rfl) (Nat.le_of_ble_eq_true rfl) (Nat.le_of_ble_eq_true rfl) dX11_init_119 (fun q16 H hq16 w => ?_)
      have hnd0 := hnd
      have w : hg_W D b0 (L ++ [q1, q2, q3, q4, q5, q6, q7, q8, q9, q10, q11, q12, q13, q14, q15, q16]) (al_F f [(a, .inr (9, [.ref q1, .ref q2, .ref q4, .ref q6, .ref q7, .ref q8, .ref q9, .ref q10, .int (0), .ref q11, .int (0), .int (0)])), (q1, .inl (D.1 14, 8, .inr (.inr (.inr (.inr (va_up (fun _ => none) 0 (some q14))))))), (q2, .inr (6, [.ref q3, .int 0, .int 0, .int 0, .int 0])), (q3, .inl (D.1 11, 100, .inl (fun _ => 0))), (q4, .inr (7, [.ref q5, .int 0])), (q5, .inl (D.1 11, 16, .inl (fun _ => 0))), (q6, .inl (D.1 13, 2, .inr (.inr (.inr (.inr (fun _ => none)))))), (q7, .inl (D.1 11, 64, .inl (fun _ => 0))), (q8, .inl (D.1 11, 24, .inl (fun _ => 0))), (q9, .inl (D.1 11, 24, .inl (fun _ => 0))), (q10, .inl (D.1 11, 24, .inl (fun _ => 0))), (q11, .inr (2, [.int 0, .int 0, .int 0, .int 0, .ref q12, .ref q13])), (q12, .inl (D.1 11, 3, .inl (fun _ => 0))), (q13, .inl (D.1 15, 6, .inr (.inr (.inr (.inr (fun _ => none)))))), (q14, .inr (4, [.int (-1), .int 0, .ref q15])), (q15, .inl (D.1 11, 40, .inl (fun _ => 0))), (q16, .inr (4, [.int 0, .int 0, .null]))]) s.heap H locs := al_grow w (al_notin ha hq16)
      have hnd : [a, q1, q2, q3, q4, q5, q6, q7, q8, q9, q10, q11, q12, q13, q14, q15, q16].Nodup := al_nd hnd0 ha hq16
      refine lv_dup hx hb dX11_init_122 rfl ?_
      refine hg_initN (As := []) (rest := [.ref q16, .int (0 + 1), .ref q1]) X w (c_X5_init l D b0 (L ++ [q1, q2, q3, q4, q5, q6, q7, q8, q9, q10, q11, q12, q13, q14, q15, q16]) (al_F f [(a, .inr (9, [.ref q1, .ref q2, .ref q4, .ref q6, .ref q7, .ref q8, .ref q9, .ref q10, .int (0), .ref q11, .int (0), .int (0)])), (q1, .inl (D.1 14, 8, .inr (.inr (.inr (.inr (va_up (fun _ => none) 0 (some q14))))))), (q2, .inr (6, [.ref q3, .int 0, .int 0, .int 0, .int 0])), (q3, .inl (D.1 11, 100, .inl (fun _ => 0))), (q4, .inr (7, [.ref q5, .int 0])), (q5, .inl (D.1 11, 16, .inl (fun _ => 0))), (q6, .inl (D.1 13, 2, .inr (.inr (.inr (.inr (fun _ => none)))))), (q7, .inl (D.1 11, 64, .inl (fun _ => 0))), (q8, .inl (D.1 11, 24, .inl (fun _ => 0))), (q9, .inl (D.1 11, 24, .inl (fun _ => 0))), (q10, .inl (D.1 11, 24, .inl (fun _ => 0))), (q11, .inr (2, [.int 0, .int 0, .int 0, .int 0, .ref q12, .ref q13])), (q12, .inl (D.1 11, 3, .inl (fun _ => 0))), (q13, .inl (D.1 15, 6, .inr (.inr (.inr (.inr (fun _ => none)))))), (q14, .inr (4, [.int (-1), .int 0, .ref q15])), (q15, .inl (D.1 11, 40, .inl (fun _ => 0))), (q16, .inr (4, [.int 0, .int 0, .null]))]) q16 (List.mem_append_right _ (List.mem_of_getElem? (i := 15) rfl)) (al_atK hnd (k := 16) (by rfl) (by rfl))) ⟨va_cnB 0 hts ggX11_init_X5_init rfl rfl rfl (X.2.1.2.1 (_, _, _) (List.mem_of_getElem? (i := 2) rfl)) (hts _ (List.mem_of_getElem? (i := 28) rfl)) hdX5_init ⟨Nat.le_of_ble_eq_true rfl, Nat.le_of_ble_eq_true rfl⟩, rfl, hts _ (List.mem_of_getElem? (i := 53) rfl)⟩ rfl hl.1 rfl (Nat.le_of_ble_eq_true rfl) dX11_init_123 ⟨(Nat.le_of_ble_eq_true rfl), (Nat.le_of_ble_eq_true rfl)⟩ (fun u H locs hp w => ?_)
      obtain ⟨q17, hq17, rfl⟩ := hp
      have w : hg_W D b0 (L ++ [q1, q2, q3, q4, q5, q6, q7, q8, q9, q10, q11, q12, q13, q14, q15, q16] ++ [q17]) (va_up (va_up (al_F f [(a, .inr (9, [.ref q1, .ref q2, .ref q4, .ref q6, .ref q7, .ref q8, .ref q9, .ref q10, .int (0), .ref q11, .int (0), .int (0)])), (q1, .inl (D.1 14, 8, .inr (.inr (.inr (.inr (va_up (fun _ => none) 0 (some q14))))))), (q2, .inr (6, [.ref q3, .int 0, .int 0, .int 0, .int 0])), (q3, .inl (D.1 11, 100, .inl (fun _ => 0))), (q4, .inr (7, [.ref q5, .int 0])), (q5, .inl (D.1 11, 16, .inl (fun _ => 0))), (q6, .inl (D.1 13, 2, .inr (.inr (.inr (.inr (fun _ => none)))))), (q7, .inl (D.1 11, 64, .inl (fun _ => 0))), (q8, .inl (D.1 11, 24, .inl (fun _ => 0))), (q9, .inl (D.1 11, 24, .inl (fun _ => 0))), (q10, .inl (D.1 11, 24, .inl (fun _ => 0))), (q11, .inr (2, [.int 0, .int 0, .int 0, .int 0, .ref q12, .ref q13])), (q12, .inl (D.1 11, 3, .inl (fun _ => 0))), (q13, .inl (D.1 15, 6, .inr (.inr (.inr (.inr (fun _ => none)))))), (q14, .inr (4, [.int (-1), .int 0, .ref q15])), (q15, .inl (D.1 11, 40, .inl (fun _ => 0))), (q16, .inr (4, [.int 0, .int 0, .null]))]) q16 (.inr (4, [.int (-1), .int 0, .ref q17]))) q17 (.inl (D.1 11, 40, .inl (fun _ => 0)))) s.heap H locs := w
      rw [al_upK hnd (k := 16) (by rfl) (by rfl)] at w
      have hnd0 := hnd
      have w : hg_W D b0 (L ++ [q1, q2, q3, q4, q5, q6, q7, q8, q9, q10, q11, q12, q13, q14, q15, q16, q17]) (al_F f [(a, .inr (9, [.ref q1, .ref q2, .ref q4, .ref q6, .ref q7, .ref q8, .ref q9, .ref q10, .int (0), .ref q11, .int (0), .int (0)])), (q1, .inl (D.1 14, 8, .inr (.inr (.inr (.inr (va_up (fun _ => none) 0 (some q14))))))), (q2, .inr (6, [.ref q3, .int 0, .int 0, .int 0, .int 0])), (q3, .inl (D.1 11, 100, .inl (fun _ => 0))), (q4, .inr (7, [.ref q5, .int 0])), (q5, .inl (D.1 11, 16, .inl (fun _ => 0))), (q6, .inl (D.1 13, 2, .inr (.inr (.inr (.inr (fun _ => none)))))), (q7, .inl (D.1 11, 64, .inl (fun _ => 0))), (q8, .inl (D.1 11, 24, .inl (fun _ => 0))), (q9, .inl (D.1 11, 24, .inl (fun _ => 0))), (q10, .inl (D.1 11, 24, .inl (fun _ => 0))), (q11, .inr (2, [.int 0, .int 0, .int 0, .int 0, .ref q12, .ref q13])), (q12, .inl (D.1 11, 3, .inl (fun _ => 0))), (q13, .inl (D.1 15, 6, .inr (.inr (.inr (.inr (fun _ => none)))))), (q14, .inr (4, [.int (-1), .int 0, .ref q15])), (q15, .inl (D.1 11, 40, .inl (fun _ => 0))), (q16, .inr (4, [.int (-1), .int 0, .ref q17])), (q17, .inl (D.1 11, 40, .inl (fun _ => 0)))]) s.heap H locs := al_grow w (al_notin ha hq17)
      have hnd : [a, q1, q2, q3, q4, q5, q6, q7, q8, q9, q10, q11, q12, q13, q14, q15, q16, q17].Nodup := al_nd hnd0 ha hq17
      refine (show W p l e _ s m args below meth c H locs _ _ Q (F0 m 126 ls [.ref q16, .int (0 + 1), .ref q1]) from ?_)
      refine hg_aast X w 3 rfl (List.mem_append_right _ (List.mem_of_getElem? (i := 0) rfl)) (al_atK hnd (k := 1) (by rfl) (by rfl)) (List.mem_append_right _ (List.mem_of_getElem? (i := 15) rfl)) (al_atK hnd (k := 16) (by rfl) (by rfl)) rfl (Or.inr rfl) 1 rfl (by decide) (by decide) dX11_init_126 (fun H locs w => ?_)
      have w : hg_W D b0 (L ++ [q1, q2, q3, q4, q5, q6, q7, q8, q9, q10, q11, q12, q13, q14, q15, q16, q17]) (al_F f [(a, .inr (9, [.ref q1, .ref q2, .ref q4, .ref q6, .ref q7, .ref q8, .ref q9, .ref q10, .int (0), .ref q11, .int (0), .int (0)])), (q1, .inl (D.1 14, 8, .inr (.inr (.inr (.inr (va_up (va_up (fun _ => none) 0 (some q14)) 1 (some q16))))))), (q2, .inr (6, [.ref q3, .int 0, .int 0, .int 0, .int 0])), (q3, .inl (D.1 11, 100, .inl (fun _ => 0))), (q4, .inr (7, [.ref q5, .int 0])), (q5, .inl (D.1 11, 16, .inl (fun _ => 0))), (q6, .inl (D.1 13, 2, .inr (.inr (.inr (.inr (fun _ => none)))))), (q7, .inl (D.1 11, 64, .inl (fun _ => 0))), (q8, .inl (D.1 11, 24, .inl (fun _ => 0))), (q9, .inl (D.1 11, 24, .inl (fun _ => 0))), (q10, .inl (D.1 11, 24, .inl (fun _ => 0))), (q11, .inr (2, [.int 0, .int 0, .int 0, .int 0, .ref q12, .ref q13])), (q12, .inl (D.1 11, 3, .inl (fun _ => 0))), (q13, .inl (D.1 15, 6, .inr (.inr (.inr (.inr (fun _ => none)))))), (q14, .inr (4, [.int (-1), .int 0, .ref q15])), (q15, .inl (D.1 11, 40, .inl (fun _ => 0))), (q16, .inr (4, [.int (-1), .int 0, .ref q17])), (q17, .inl (D.1 11, 40, .inl (fun _ => 0)))]) s.heap H locs := al_chgK hnd (k := 1) w (by rfl) (by rfl)
      refine lv_iinc (v := 0 + 1 + 1) (lv' := [(1, .int (0 + 1 + 1)), (0, .ref a)]) hx hb dX11_init_127 hl (k := 0) rfl rfl (by decide) rfl (fun ls hl => ?_)
      refine lv_goto (tgt := 105) hx hb dX11_init_130 (by decide) ?_
      refine lv_iload_n hx hb dX11_init_105 rfl (lv_at hl 0 rfl) ?_
      refine lv_aload_n hx hb dX11_init_106 rfl (lv_at hl 1 rfl) ?_
      refine hg_get (C := RX11) (T := TX11) (N := 12) (ci := 9) X w (List.mem_append_left _ ha) (al_atK hnd (k := 0) (by rfl) (by rfl)) hin11 rfl 0 (by decide) (List.mem_of_getElem? (i := 5) rfl) (Or.inl rfl) rfl dX11_init_107 ?_
      refine hg_alenR X w 3 rfl (List.mem_append_right _ (List.mem_of_getElem? (i := 0) rfl)) (al_atK hnd (k := 1) (by rfl) (by rfl)) dX11_init_110 ?_
      refine lv_icmp_ge (tgt := 133) hx hb dX11_init_111 (by decide) (fun c_111 => ?_) (fun c_111 => ?_)
      · exact absurd c_111 (by decide)
      · refine lv_aload_n hx hb dX11_init_114 rfl (lv_at hl 1 rfl) ?_
        refine hg_get (C := RX11) (T := TX11) (N := 12) (ci := 9) X w (List.mem_append_left _ ha) (al_atK hnd (k := 0) (by rfl) (by rfl)) hin11 rfl 0 (by decide) (List.mem_of_getElem? (i := 5) rfl) (Or.inl rfl) rfl dX11_init_115 ?_
        refine lv_iload_n hx hb dX11_init_118 rfl (lv_at hl 0 rfl) ?_
        refine hg_new X w (C := RX5) (T := TX5) (N := 3) (ci := 4) (ty0 := tyX5) hin5 tyX5_ok rfl (List.mem_of_getElem? (i := 4) rfl) (List.mem_of_getElem? (i := 27) rfl) (List.mem_of_getElem? (i := 28) rfl) (fs := [.int 0, .int 0, .null]) (fun j hj => by match j, hj with | 0, _ | 1, _ | 2, _ => rfl) (Nat.le_of_ble_eq_true rfl) (Nat.le_of_ble_eq_true rfl) dX11_init_119 (fun q18 H hq18 w => ?_)
        have hnd0 := hnd
        have w : hg_W D b0 (L ++ [q1, q2, q3, q4, q5, q6, q7, q8, q9, q10, q11, q12, q13, q14, q15, q16, q17, q18]) (al_F f [(a, .inr (9, [.ref q1, .ref q2, .ref q4, .ref q6, .ref q7, .ref q8, .ref q9, .ref q10, .int (0), .ref q11, .int (0), .int (0)])), (q1, .inl (D.1 14, 8, .inr (.inr (.inr (.inr (va_up (va_up (fun _ => none) 0 (some q14)) 1 (some q16))))))), (q2, .inr (6, [.ref q3, .int 0, .int 0, .int 0, .int 0])), (q3, .inl (D.1 11, 100, .inl (fun _ => 0))), (q4, .inr (7, [.ref q5, .int 0])), (q5, .inl (D.1 11, 16, .inl (fun _ => 0))), (q6, .inl (D.1 13, 2, .inr (.inr (.inr (.inr (fun _ => none)))))), (q7, .inl (D.1 11, 64, .inl (fun _ => 0))), (q8, .inl (D.1 11, 24, .inl (fun _ => 0))), (q9, .inl (D.1 11, 24, .inl (fun _ => 0))), (q10, .inl (D.1 11, 24, .inl (fun _ => 0))), (q11, .inr (2, [.int 0, .int 0, .int 0, .int 0, .ref q12, .ref q13])), (q12, .inl (D.1 11, 3, .inl (fun _ => 0))), (q13, .inl (D.1 15, 6, .inr (.inr (.inr (.inr (fun _ => none)))))), (q14, .inr (4, [.int (-1), .int 0, .ref q15])), (q15, .inl (D.1 11, 40, .inl (fun _ => 0))), (q16, .inr (4, [.int (-1), .int 0, .ref q17])), (q17, .inl (D.1 11, 40, .inl (fun _ => 0))), (q18, .inr (4, [.int 0, .int 0, .null]))]) s.heap H locs := al_grow w (al_notin ha hq18)
        have hnd : [a, q1, q2, q3, q4, q5, q6, q7, q8, q9, q10, q11, q12, q13, q14, q15, q16, q17, q18].Nodup := al_nd hnd0 ha hq18
        refine lv_dup hx hb dX11_init_122 rfl ?_
        refine hg_initN (As := []) (rest := [.ref q18, .int (0 + 1 + 1), .ref q1]) X w (c_X5_init l D b0 (L ++ [q1, q2, q3, q4, q5, q6, q7, q8, q9, q10, q11, q12, q13, q14, q15, q16, q17, q18]) (al_F f [(a, .inr (9, [.ref q1, .ref q2, .ref q4, .ref q6, .ref q7, .ref q8, .ref q9, .ref q10, .int (0), .ref q11, .int (0), .int (0)])), (q1, .inl (D.1 14, 8, .inr (.inr (.inr (.inr (va_up (va_up (fun _ => none) 0 (some q14)) 1 (some q16))))))), (q2, .inr (6, [.ref q3, .int 0, .int 0, .int 0, .int 0])), (q3, .inl (D.1 11, 100, .inl (fun _ => 0))), (q4, .inr (7, [.ref q5, .int 0])), (q5, .inl (D.1 11, 16, .inl (fun _ => 0))), (q6, .inl (D.1 13, 2, .inr (.inr (.inr (.inr (fun _ => none)))))), (q7, .inl (D.1 11, 64, .inl (fun _ => 0))), (q8, .inl (D.1 11, 24, .inl (fun _ => 0))), (q9, .inl (D.1 11, 24, .inl (fun _ => 0))), (q10, .inl (D.1 11, 24, .inl (fun _ => 0))), (q11, .inr (2, [.int 0, .int 0, .int 0, .int 0, .ref q12, .ref q13])), (q12, .inl (D.1 11, 3, .inl (fun _ => 0))), (q13, .inl (D.1 15, 6, .inr (.inr (.inr (.inr (fun _ => none)))))), (q14, .inr (4, [.int (-1), .int 0, .ref q15])), (q15, .inl (D.1 11, 40, .inl (fun _ => 0))), (q16, .inr (4, [.int (-1), .int 0, .ref q17])), (q17, .inl (D.1 11, 40, .inl (fun _ => 0))), (q18, .inr (4, [.int 0, .int 0, .null]))]) q18 (List.mem_append_right _ (List.mem_of_getElem? (i := 17) rfl)) (al_atK hnd (k := 18) (by rfl) (by rfl))) ⟨va_cnB 0 hts ggX11_init_X5_init rfl rfl rfl (X.2.1.2.1 (_, _, _) (List.mem_of_getElem? (i := 2) rfl)) (hts _ (List.mem_of_getElem? (i := 28) rfl)) hdX5_init ⟨Nat.le_of_ble_eq_true rfl, Nat.le_of_ble_eq_true rfl⟩, rfl, hts _ (List.mem_of_getElem? (i := 53) rfl)⟩ rfl hl.1 rfl (Nat.le_of_ble_eq_true rfl) dX11_init_123 ⟨(Nat.le_of_ble_eq_true rfl), (Nat.le_of_ble_eq_true rfl)⟩ (fun u H locs hp w => ?_)
        obtain ⟨q19, hq19, rfl⟩ := hp
        have w : hg_W D b0 (L ++ [q1, q2, q3, q4, q5, q6, q7, q8, q9, q10, q11, q12, q13, q14, q15, q16, q17, q18] ++ [q19]) (va_up (va_up (al_F f [(a, .inr (9, [.ref q1, .ref q2, .ref q4, .ref q6, .ref q7, .ref q8, .ref q9, .ref q10, .int (0), .ref q11, .int (0), .int (0)])), (q1, .inl (D.1 14, 8, .inr (.inr (.inr (.inr (va_up (va_up (fun _ => none) 0 (some q14)) 1 (some q16))))))), (q2, .inr (6, [.ref q3, .int 0, .int 0, .int 0, .int 0])), (q3, .inl (D.1 11, 100, .inl (fun _ => 0))), (q4, .inr (7, [.ref q5, .int 0])), (q5, .inl (D.1 11, 16, .inl (fun _ => 0))), (q6, .inl (D.1 13, 2, .inr (.inr (.inr (.inr (fun _ => none)))))), (q7, .inl (D.1 11, 64, .inl (fun _ => 0))), (q8, .inl (D.1 11, 24, .inl (fun _ => 0))), (q9, .inl (D.1 11, 24, .inl (fun _ => 0))), (q10, .inl (D.1 11, 24, .inl (fun _ => 0))), (q11, .inr (2, [.int 0, .int 0, .int 0, .int 0, .ref q12, .ref q13])), (q12, .inl (D.1 11, 3, .inl (fun _ => 0))), (q13, .inl (D.1 15, 6, .inr (.inr (.inr (.inr (fun _ => none)))))), (q14, .inr (4, [.int (-1), .int 0, .ref q15])), (q15, .inl (D.1 11, 40, .inl (fun _ => 0))), (q16, .inr (4, [.int (-1), .int 0, .ref q17])), (q17, .inl (D.1 11, 40, .inl (fun _ => 0))), (q18, .inr (4, [.int 0, .int 0, .null]))]) q18 (.inr (4, [.int (-1), .int 0, .ref q19]))) q19 (.inl (D.1 11, 40, .inl (fun _ => 0)))) s.heap H locs := w
        rw [al_upK hnd (k := 18) (by rfl) (by rfl)] at w
        have hnd0 := hnd
        have w : hg_W D b0 (L ++ [q1, q2, q3, q4, q5, q6, q7, q8, q9, q10, q11, q12, q13, q14, q15, q16, q17, q18, q19]) (al_F f [(a, .inr (9, [.ref q1, .ref q2, .ref q4, .ref q6, .ref q7, .ref q8, .ref q9, .ref q10, .int (0), .ref q11, .int (0), .int (0)])), (q1, .inl (D.1 14, 8, .inr (.inr (.inr (.inr (va_up (va_up (fun _ => none) 0 (some q14)) 1 (some q16))))))), (q2, .inr (6, [.ref q3, .int 0, .int 0, .int 0, .int 0])), (q3, .inl (D.1 11, 100, .inl (fun _ => 0))), (q4, .inr (7, [.ref q5, .int 0])), (q5, .inl (D.1 11, 16, .inl (fun _ => 0))), (q6, .inl (D.1 13, 2, .inr (.inr (.inr (.inr (fun _ => none)))))), (q7, .inl (D.1 11, 64, .inl (fun _ => 0))), (q8, .inl (D.1 11, 24, .inl (fun _ => 0))), (q9, .inl (D.1 11, 24, .inl (fun _ => 0))), (q10, .inl (D.1 11, 24, .inl (fun _ => 0))), (q11, .inr (2, [.int 0, .int 0, .int 0, .int 0, .ref q12, .ref q13])), (q12, .inl (D.1 11, 3, .inl (fun _ => 0))), (q13, .inl (D.1 15, 6, .inr (.inr (.inr (.inr (fun _ => none)))))), (q14, .inr (4, [.int (-1), .int 0, .ref q15])), (q15, .inl (D.1 11, 40, .inl (fun _ => 0))), (q16, .inr (4, [.int (-1), .int 0, .ref q17])), (q17, .inl (D.1 11, 40, .inl (fun _ => 0))), (q18, .inr (4, [.int (-1), .int 0, .ref q19])), (q19, .inl (D.1 11, 40, .inl (fun _ => 0)))]) s.heap H locs := al_grow w (al_notin ha hq19)
        have hnd : [a, q1, q2, q3, q4, q5, q6, q7, q8, q9, q10, q11, q12, q13, q14, q15, q16, q17, q18, q19].Nodup := al_nd hnd0 ha hq19
        refine (show W p l e _ s m args below meth c H locs _ _ Q (F0 m 126 ls [.ref q18, .int (0 + 1 + 1), .ref q1]) from ?_)
        refine hg_aast X w 3 rfl (List.mem_append_right _ (List.mem_of_getElem? (i := 0) rfl)) (al_atK hnd (k := 1) (by rfl) (by rfl)) (List.mem_append_right _ (List.mem_of_getElem? (i := 17) rfl)) (al_atK hnd (k := 18) (by rfl) (by rfl)) rfl (Or.inr rfl) 2 rfl (by decide) (by decide) dX11_init_126 (fun H locs w => ?_)
        have w : hg_W D b0 (L ++ [q1, q2, q3, q4, q5, q6, q7, q8, q9, q10, q11, q12, q13, q14, q15, q16, q17, q18, q19]) (al_F f [(a, .inr (9, [.ref q1, .ref q2, .ref q4, .ref q6, .ref q7, .ref q8, .ref q9, .ref q10, .int (0), .ref q11, .int (0), .int (0)])), (q1, .inl (D.1 14, 8, .inr (.inr (.inr (.inr (va_up (va_up (va_up (fun _ => none) 0 (some q14)) 1 (some q16)) 2 (some q18))))))), (q2, .inr (6, [.ref q3, .int 0, .int 0, .int 0, .int 0])), (q3, .inl (D.1 11, 100, .inl (fun _ => 0))), (q4, .inr (7, [.ref q5, .int 0])), (q5, .inl (D.1 11, 16, .inl (fun _ => 0))), (q6, .inl (D.1 13, 2, .inr (.inr (.inr (.inr (fun _ => none)))))), (q7, .inl (D.1 11, 64, .inl (fun _ => 0))), (q8, .inl (D.1 11, 24, .inl (fun _ => 0))), (q9, .inl (D.1 11, 24, .inl (fun _ => 0))), (q10, .inl (D.1 11, 24, .inl (fun _ => 0))), (q11, .inr (2, [.int 0, .int 0, .int 0, .int 0, .ref q12, .ref q13])), (q12, .inl (D.1 11, 3, .inl (fun _ => 0))), (q13, .inl (D.1 15, 6, .inr (.inr (.inr (.inr (fun _ => none)))))), (q14, .inr (4, [.int (-1), .int 0, .ref q15])), (q15, .inl (D.1 11, 40, .inl (fun _ => 0))), (q16, .inr (4, [.int (-1), .int 0, .ref q17])), (q17, .inl (D.1 11, 40, .inl (fun _ => 0))), (q18, .inr (4, [.int (-1), .int 0, .ref q19])), (q19, .inl (D.1 11, 40, .inl (fun _ => 0)))]) s.heap H locs := al_chgK hnd (k := 1) w (by rfl) (by rfl)
        refine lv_iinc (v := 0 + 1 + 1 + 1) (lv' := [(1, .int (0 + 1 + 1 + 1)), (0, .ref a)]) hx hb dX11_init_127 hl (k := 0) rfl rfl (by decide) rfl (fun ls hl => ?_)
        refine lv_goto (tgt := 105) hx hb dX11_init_130 (by decide) ?_
        refine lv_iload_n hx hb dX11_init_105 rfl (lv_at hl 0 rfl) ?_
        refine lv_aload_n hx hb dX11_init_106 rfl (lv_at hl 1 rfl) ?_
        refine hg_get (C := RX11) (T := TX11) (N := 12) (ci := 9) X w (List.mem_append_left _ ha) (al_atK hnd (k := 0) (by rfl) (by rfl)) hin11 rfl 0 (by decide) (List.mem_of_getElem? (i := 5) rfl) (Or.inl rfl) rfl dX11_init_107 ?_
        refine hg_alenR X w 3 rfl (List.mem_append_right _ (List.mem_of_getElem? (i := 0) rfl)) (al_atK hnd (k := 1) (by rfl) (by rfl)) dX11_init_110 ?_
        refine lv_icmp_ge (tgt := 133) hx hb dX11_init_111 (by decide) (fun c_111 => ?_) (fun c_111 => ?_)
        · exact absurd c_111 (by decide)
        · refine lv_aload_n hx hb dX11_init_114 rfl (lv_at hl 1 rfl) ?_
          refine hg_get (C := RX11) (T := TX11) (N := 12) (ci := 9) X w (List.mem_append_left _ ha) (al_atK hnd (k := 0) (by rfl) (by rfl)) hin11 rfl 0 (by decide) (List.mem_of_getElem? (i := 5) rfl) (Or.inl rfl) rfl dX11_init_115 ?_
          refine lv_iload_n hx hb dX11_init_118 rfl (lv_at hl 0 rfl) ?_
          refine hg_new X w (C := RX5) (T := TX5) (N := 3) (ci := 4) (ty0 := tyX5) hin5 tyX5_ok rfl (List.mem_of_getElem? (i := 4) rfl) (List.mem_of_getElem? (i := 27) rfl) (List.mem_of_getElem? (i := 28) rfl) (fs := [.int 0, .int 0, .null]) (fun j hj => by match j, hj with | 0, _ | 1, _ | 2, _ => rfl) (Nat.le_of_ble_eq_true rfl) (Nat.le_of_ble_eq_true rfl) dX11_init_119 (fun q20 H hq20 w => ?_)
          have hnd0 := hnd
          have w : hg_W D b0 (L ++ [q1, q2, q3, q4, q5, q6, q7, q8, q9, q10, q11, q12, q13, q14, q15, q16, q17, q18, q19, q20]) (al_F f [(a, .inr (9, [.ref q1, .ref q2, .ref q4, .ref q6, .ref q7, .ref q8, .ref q9, .ref q10, .int (0), .ref q11, .int (0), .int (0)])), (q1, .inl (D.1 14, 8, .inr (.inr (.inr (.inr (va_up (va_up (va_up (fun _ => none) 0 (some q14)) 1 (some q16)) 2 (some q18))))))), (q2, .inr (6, [.ref q3, .int 0, .int 0, .int 0, .int 0])), (q3, .inl (D.1 11, 100, .inl (fun _ => 0))), (q4, .inr (7, [.ref q5, .int 0])), (q5, .inl (D.1 11, 16, .inl (fun _ => 0))), (q6, .inl (D.1 13, 2, .inr (.inr (.inr (.inr (fun _ => none)))))), (q7, .inl (D.1 11, 64, .inl (fun _ => 0))), (q8, .inl (D.1 11, 24, .inl (fun _ => 0))), (q9, .inl (D.1 11, 24, .inl (fun _ => 0))), (q10, .inl (D.1 11, 24, .inl (fun _ => 0))), (q11, .inr (2, [.int 0, .int 0, .int 0, .int 0, .ref q12, .ref q13])), (q12, .inl (D.1 11, 3, .inl (fun _ => 0))), (q13, .inl (D.1 15, 6, .inr (.inr (.inr (.inr (fun _ => none)))))), (q14, .inr (4, [.int (-1), .int 0, .ref q15])), (q15, .inl (D.1 11, 40, .inl (fun _ => 0))), (q16, .inr (4, [.int (-1), .int 0, .ref q17])), (q17, .inl (D.1 11, 40, .inl (fun _ => 0))), (q18, .inr (4, [.int (-1), .int 0, .ref q19])), (q19, .inl (D.1 11, 40, .inl (fun _ => 0))), (q20, .inr (4, [.int 0, .int 0, .null]))]) s.heap H locs := al_grow w (al_notin ha hq20)
          have hnd : [a, q1, q2, q3, q4, q5, q6, q7, q8, q9, q10, q11, q12, q13, q14, q15, q16, q17, q18, q19, q20].Nodup := al_nd hnd0 ha hq20
          refine lv_dup hx hb dX11_init_122 rfl ?_
          refine hg_initN (As := []) (rest := [.ref q20, .int (0 + 1 + 1 + 1), .ref q1]) X w (c_X5_init l D b0 (L ++ [q1, q2, q3, q4, q5, q6, q7, q8, q9, q10, q11, q12, q13, q14, q15, q16, q17, q18, q19, q20]) (al_F f [(a, .inr (9, [.ref q1, .ref q2, .ref q4, .ref q6, .ref q7, .ref q8, .ref q9, .ref q10, .int (0), .ref q11, .int (0), .int (0)])), (q1, .inl (D.1 14, 8, .inr (.inr (.inr (.inr (va_up (va_up (va_up (fun _ => none) 0 (some q14)) 1 (some q16)) 2 (some q18))))))), (q2, .inr (6, [.ref q3, .int 0, .int 0, .int 0, .int 0])), (q3, .inl (D.1 11, 100, .inl (fun _ => 0))), (q4, .inr (7, [.ref q5, .int 0])), (q5, .inl (D.1 11, 16, .inl (fun _ => 0))), (q6, .inl (D.1 13, 2, .inr (.inr (.inr (.inr (fun _ => none)))))), (q7, .inl (D.1 11, 64, .inl (fun _ => 0))), (q8, .inl (D.1 11, 24, .inl (fun _ => 0))), (q9, .inl (D.1 11, 24, .inl (fun _ => 0))), (q10, .inl (D.1 11, 24, .inl (fun _ => 0))), (q11, .inr (2, [.int 0, .int 0, .int 0, .int 0, .ref q12, .ref q13])), (q12, .inl (D.1 11, 3, .inl (fun _ => 0))), (q13, .inl (D.1 15, 6, .inr (.inr (.inr (.inr (fun _ => none)))))), (q14, .inr (4, [.int (-1), .int 0, .ref q15])), (q15, .inl (D.1 11, 40, .inl (fun _ => 0))), (q16, .inr (4, [.int (-1), .int 0, .ref q17])), (q17, .inl (D.1 11, 40, .inl (fun _ => 0))), (q18, .inr (4, [.int (-1), .int 0, .ref q19])), (q19, .inl (D.1 11, 40, .inl (fun _ => 0))), (q20, .inr (4, [.int 0, .int 0, .null]))]) q20 (List.mem_append_right _ (List.mem_of_getElem? (i := 19) rfl)) (al_atK hnd (k := 20) (by rfl) (by rfl))) ⟨va_cnB 0 hts ggX11_init_X5_init rfl rfl rfl (X.2.1.2.1 (_, _, _) (List.mem_of_getElem? (i := 2) rfl)) (hts _ (List.mem_of_getElem? (i := 28) rfl)) hdX5_init ⟨Nat.le_of_ble_eq_true rfl, Nat.le_of_ble_eq_true rfl⟩, rfl, hts _ (List.mem_of_getElem? (i := 53) rfl)⟩ rfl hl.1 rfl (Nat.le_of_ble_eq_true rfl) dX11_init_123 ⟨(Nat.le_of_ble_eq_true rfl), (Nat.le_of_ble_eq_true rfl)⟩ (fun u H locs hp w => ?_)
          obtain ⟨q21, hq21, rfl⟩ := hp
          have w : hg_W D b0 (L ++ [q1, q2, q3, q4, q5, q6, q7, q8, q9, q10, q11, q12, q13, q14, q15, q16, q17, q18, q19, q20] ++ [q21]) (va_up (va_up (al_F f [(a, .inr (9, [.ref q1, .ref q2, .ref q4, .ref q6, .ref q7, .ref q8, .ref q9, .ref q10, .int (0), .ref q11, .int (0), .int (0)])), (q1, .inl (D.1 14, 8, .inr (.inr (.inr (.inr (va_up (va_up (va_up (fun _ => none) 0 (some q14)) 1 (some q16)) 2 (some q18))))))), (q2, .inr (6, [.ref q3, .int 0, .int 0, .int 0, .int 0])), (q3, .inl (D.1 11, 100, .inl (fun _ => 0))), (q4, .inr (7, [.ref q5, .int 0])), (q5, .inl (D.1 11, 16, .inl (fun _ => 0))), (q6, .inl (D.1 13, 2, .inr (.inr (.inr (.inr (fun _ => none)))))), (q7, .inl (D.1 11, 64, .inl (fun _ => 0))), (q8, .inl (D.1 11, 24, .inl (fun _ => 0))), (q9, .inl (D.1 11, 24, .inl (fun _ => 0))), (q10, .inl (D.1 11, 24, .inl (fun _ => 0))), (q11, .inr (2, [.int 0, .int 0, .int 0, .int 0, .ref q12, .ref q13])), (q12, .inl (D.1 11, 3, .inl (fun _ => 0))), (q13, .inl (D.1 15, 6, .inr (.inr (.inr (.inr (fun _ => none)))))), (q14, .inr (4, [.int (-1), .int 0, .ref q15])), (q15, .inl (D.1 11, 40, .inl (fun _ => 0))), (q16, .inr (4, [.int (-1), .int 0, .ref q17])), (q17, .inl (D.1 11, 40, .inl (fun _ => 0))), (q18, .inr (4, [.int (-1), .int 0, .ref q19])), (q19, .inl (D.1 11, 40, .inl (fun _ => 0))), (q20, .inr (4, [.int 0, .int 0, .null]))]) q20 (.inr (4, [.int (-1), .int 0, .ref q21]))) q21 (.inl (D.1 11, 40, .inl (fun _ => 0)))) s.heap H locs := w
          rw [al_upK hnd (k := 20) (by rfl) (by rfl)] at w
          have hnd0 := hnd
          have w : hg_W D b0 (L ++ [q1, q2, q3, q4, q5, q6, q7, q8, q9, q10, q11, q12, q13, q14, q15, q16, q17, q18, q19, q20, q21]) (al_F f [(a, .inr (9, [.ref q1, .ref q2, .ref q4, .ref q6, .ref q7, .ref q8, .ref q9, .ref q10, .int (0), .ref q11, .int (0), .int (0)])), (q1, .inl (D.1 14, 8, .inr (.inr (.inr (.inr (va_up (va_up (va_up (fun _ => none) 0 (some q14)) 1 (some q16)) 2 (some q18))))))), (q2, .inr (6, [.ref q3, .int 0, .int 0, .int 0, .int 0])), (q3, .inl (D.1 11, 100, .inl (fun _ => 0))), (q4, .inr (7, [.ref q5, .int 0])), (q5, .inl (D.1 11, 16, .inl (fun _ => 0))), (q6, .inl (D.1 13, 2, .inr (.inr (.inr (.inr (fun _ => none)))))), (q7, .inl (D.1 11, 64, .inl (fun _ => 0))), (q8, .inl (D.1 11, 24, .inl (fun _ => 0))), (q9, .inl (D.1 11, 24, .inl (fun _ => 0))), (q10, .inl (D.1 11, 24, .inl (fun _ => 0))), (q11, .inr (2, [.int 0, .int 0, .int 0, .int 0, .ref q12, .ref q13])), (q12, .inl (D.1 11, 3, .inl (fun _ => 0))), (q13, .inl (D.1 15, 6, .inr (.inr (.inr (.inr (fun _ => none)))))), (q14, .inr (4, [.int (-1), .int 0, .ref q15])), (q15, .inl (D.1 11, 40, .inl (fun _ => 0))), (q16, .inr (4, [.int (-1), .int 0, .ref q17])), (q17, .inl (D.1 11, 40, .inl (fun _ => 0))), (q18, .inr (4, [.int (-1), .int 0, .ref q19])), (q19, .inl (D.1 11, 40, .inl (fun _ => 0))), (q20, .inr (4, [.int (-1), .int 0, .ref q21])), (q21, .inl (D.1 11, 40, .inl (fun _ => 0)))]) s.heap H locs := al_grow w (al_notin ha hq21)
          have hnd : [a, q1, q2, q3, q4, q5, q6, q7, q8, q9, q10, q11, q12, q13, q14, q15, q16, q17, q18, q19, q20, q21].Nodup := al_nd hnd0 ha hq21
          refine (show W p l e _ s m args below meth c H locs _ _ Q (F0 m 126 ls [.ref q20, .int (0 + 1 + 1 + 1), .ref q1]) from ?_)
          refine hg_aast X w 3 rfl (List.mem_append_right _ (List.mem_of_getElem? (i := 0) rfl)) (al_atK hnd (k := 1) (by rfl) (by rfl)) (List.mem_append_right _ (List.mem_of_getElem? (i := 19) rfl)) (al_atK hnd (k := 20) (by rfl) (by rfl)) rfl (Or.inr rfl) 3 rfl (by decide) (by decide) dX11_init_126 (fun H locs w => ?_)
          have w : hg_W D b0 (L ++ [q1, q2, q3, q4, q5, q6, q7, q8, q9, q10, q11, q12, q13, q14, q15, q16, q17, q18, q19, q20, q21]) (al_F f [(a, .inr (9, [.ref q1, .ref q2, .ref q4, .ref q6, .ref q7, .ref q8, .ref q9, .ref q10, .int (0), .ref q11, .int (0), .int (0)])), (q1, .inl (D.1 14, 8, .inr (.inr (.inr (.inr (va_up (va_up (va_up (va_up (fun _ => none) 0 (some q14)) 1 (some q16)) 2 (some q18)) 3 (some q20))))))), (q2, .inr (6, [.ref q3, .int 0, .int 0, .int 0, .int 0])), (q3, .inl (D.1 11, 100, .inl (fun _ => 0))), (q4, .inr (7, [.ref q5, .int 0])), (q5, .inl (D.1 11, 16, .inl (fun _ => 0))), (q6, .inl (D.1 13, 2, .inr (.inr (.inr (.inr (fun _ => none)))))), (q7, .inl (D.1 11, 64, .inl (fun _ => 0))), (q8, .inl (D.1 11, 24, .inl (fun _ => 0))), (q9, .inl (D.1 11, 24, .inl (fun _ => 0))), (q10, .inl (D.1 11, 24, .inl (fun _ => 0))), (q11, .inr (2, [.int 0, .int 0, .int 0, .int 0, .ref q12, .ref q13])), (q12, .inl (D.1 11, 3, .inl (fun _ => 0))), (q13, .inl (D.1 15, 6, .inr (.inr (.inr (.inr (fun _ => none)))))), (q14, .inr (4, [.int (-1), .int 0, .ref q15])), (q15, .inl (D.1 11, 40, .inl (fun _ => 0))), (q16, .inr (4, [.int (-1), .int 0, .ref q17])), (q17, .inl (D.1 11, 40, .inl (fun _ => 0))), (q18, .inr (4, [.int (-1), .int 0, .ref q19])), (q19, .inl (D.1 11, 40, .inl (fun _ => 0))), (q20, .inr (4, [.int (-1), .int 0, .ref q21])), (q21, .inl (D.1 11, 40, .inl (fun _ => 0)))]) s.heap H locs := al_chgK hnd (k := 1) w (by rfl) (by rfl)
          refine lv_iinc (v := 0 + 1 + 1 + 1 + 1) (lv' := [(1, .int (0 + 1 + 1 + 1 + 1)), (0, .ref a)]) hx hb dX11_init_127 hl (k := 0) rfl rfl (by decide) rfl (fun ls hl => ?_)
          refine lv_goto (tgt := 105) hx hb dX11_init_130 (by decide) ?_
          refine lv_iload_n hx hb dX11_init_105 rfl (lv_at hl 0 rfl) ?_
          refine lv_aload_n hx hb dX11_init_106 rfl (lv_at hl 1 rfl) ?_
          refine hg_get (C := RX11) (T := TX11) (N := 12) (ci := 9) X w (List.mem_append_left _ ha) (al_atK hnd (k := 0) (by rfl) (by rfl)) hin11 rfl 0 (by decide) (List.mem_of_getElem? (i := 5) rfl) (Or.inl rfl) rfl dX11_init_107 ?_
          refine hg_alenR X w 3 rfl (List.mem_append_right _ (List.mem_of_getElem? (i := 0) rfl)) (al_atK hnd (k := 1) (by rfl) (by rfl)) dX11_init_110 ?_
          refine lv_icmp_ge (tgt := 133) hx hb dX11_init_111 (by decide) (fun c_111 => ?_) (fun c_111 => ?_)
          · exact absurd c_111 (by decide)
          · refine lv_aload_n hx hb dX11_init_114 rfl (lv_at hl 1 rfl) ?_
            refine hg_get (C := RX11) (T := TX11) (N := 12) (ci := 9) X w (List.mem_append_left _ ha) (al_atK hnd (k := 0) (by rfl) (by rfl)) hin11 rfl 0 (by decide) (List.mem_of_getElem? (i := 5) rfl) (Or.inl rfl) rfl dX11_init_115 ?_
            refine lv_iload_n hx hb dX11_init_118 rfl (lv_at hl 0 rfl) ?_
            refine hg_new X w (C := RX5) (T := TX5) (N := 3) (ci := 4) (ty0 := tyX5) hin5 tyX5_ok rfl (List.mem_of_getElem? (i := 4) rfl) (List.mem_of_getElem? (i := 27) rfl) (List.mem_of_getElem? (i := 28) rfl) (fs := [.int 0, .int 0, .null]) (fun j hj => by match j, hj with | 0, _ | 1, _ | 2, _ => rfl) (Nat.le_of_ble_eq_true rfl) (Nat.le_of_ble_eq_true rfl) dX11_init_119 (fun q22 H hq22 w => ?_)
            have hnd0 := hnd
            have w : hg_W D b0 (L ++ [q1, q2, q3, q4, q5, q6, q7, q8, q9, q10, q11, q12, q13, q14, q15, q16, q17, q18, q19, q20, q21, q22]) (al_F f [(a, .inr (9, [.ref q1, .ref q2, .ref q4, .ref q6, .ref q7, .ref q8, .ref q9, .ref q10, .int (0), .ref q11, .int (0), .int (0)])), (q1, .inl (D.1 14, 8, .inr (.inr (.inr (.inr (va_up (va_up (va_up (va_up (fun _ => none) 0 (some q14)) 1 (some q16)) 2 (some q18)) 3 (some q20))))))), (q2, .inr (6, [.ref q3, .int 0, .int 0, .int 0, .int 0])), (q3, .inl (D.1 11, 100, .inl (fun _ => 0))), (q4, .inr (7, [.ref q5, .int 0])), (q5, .inl (D.1 11, 16, .inl (fun _ => 0))), (q6, .inl (D.1 13, 2, .inr (.inr (.inr (.inr (fun _ => none)))))), (q7, .inl (D.1 11, 64, .inl (fun _ => 0))), (q8, .inl (D.1 11, 24, .inl (fun _ => 0))), (q9, .inl (D.1 11, 24, .inl (fun _ => 0))), (q10, .inl (D.1 11, 24, .inl (fun _ => 0))), (q11, .inr (2, [.int 0, .int 0, .int 0, .int 0, .ref q12, .ref q13])), (q12, .inl (D.1 11, 3, .inl (fun _ => 0))), (q13, .inl (D.1 15, 6, .inr (.inr (.inr (.inr (fun _ => none)))))), (q14, .inr (4, [.int (-1), .int 0, .ref q15])), (q15, .inl (D.1 11, 40, .inl (fun _ => 0))), (q16, .inr (4, [.int (-1), .int 0, .ref q17])), (q17, .inl (D.1 11, 40, .inl (fun _ => 0))), (q18, .inr (4, [.int (-1), .int 0, .ref q19])), (q19, .inl (D.1 11, 40, .inl (fun _ => 0))), (q20, .inr (4, [.int (-1), .int 0, .ref q21])), (q21, .inl (D.1 11, 40, .inl (fun _ => 0))), (q22, .inr (4, [.int 0, .int 0, .null]))]) s.heap H locs := al_grow w (al_notin ha hq22)
            have hnd : [a, q1, q2, q3, q4, q5, q6, q7, q8, q9, q10, q11, q12, q13, q14, q15, q16, q17, q18, q19, q20, q21, q22].Nodup := al_nd hnd0 ha hq22
            refine lv_dup hx hb dX11_init_122 rfl ?_
            refine hg_initN (As := []) (rest := [.ref q22, .int (0 + 1 + 1 + 1 + 1), .ref q1]) X w (c_X5_init l D b0 (L ++ [q1, q2, q3, q4, q5, q6, q7, q8, q9, q10, q11, q12, q13, q14, q15, q16, q17, q18, q19, q20, q21, q22]) (al_F f [(a, .inr (9, [.ref q1, .ref q2, .ref q4, .ref q6, .ref q7, .ref q8, .ref q9, .ref q10, .int (0), .ref q11, .int (0), .int (0)])), (q1, .inl (D.1 14, 8, .inr (.inr (.inr (.inr (va_up (va_up (va_up (va_up (fun _ => none) 0 (some q14)) 1 (some q16)) 2 (some q18)) 3 (some q20))))))), (q2, .inr (6, [.ref q3, .int 0, .int 0, .int 0, .int 0])), (q3, .inl (D.1 11, 100, .inl (fun _ => 0))), (q4, .inr (7, [.ref q5, .int 0])), (q5, .inl (D.1 11, 16, .inl (fun _ => 0))), (q6, .inl (D.1 13, 2, .inr (.inr (.inr (.inr (fun _ => none)))))), (q7, .inl (D.1 11, 64, .inl (fun _ => 0))), (q8, .inl (D.1 11, 24, .inl (fun _ => 0))), (q9, .inl (D.1 11, 24, .inl (fun _ => 0))), (q10, .inl (D.1 11, 24, .inl (fun _ => 0))), (q11, .inr (2, [.int 0, .int 0, .int 0, .int 0, .ref q12, .ref q13])), (q12, .inl (D.1 11, 3, .inl (fun _ => 0))), (q13, .inl (D.1 15, 6, .inr (.inr (.inr (.inr (fun _ => none)))))), (q14, .inr (4, [.int (-1), .int 0, .ref q15])), (q15, .inl (D.1 11, 40, .inl (fun _ => 0))), (q16, .inr (4, [.int (-1), .int 0, .ref q17])), (q17, .inl (D.1 11, 40, .inl (fun _ => 0))), (q18, .inr (4, [.int (-1), .int 0, .ref q19])), (q19, .inl (D.1 11, 40, .inl (fun _ => 0))), (q20, .inr (4, [.int (-1), .int 0, .ref q21])), (q21, .inl (D.1 11, 40, .inl (fun _ => 0))), (q22, .inr (4, [.int 0, .int 0, .null]))]) q22 (List.mem_append_right _ (List.mem_of_getElem? (i := 21) rfl)) (al_atK hnd (k := 22) (by rfl) (by rfl))) ⟨va_cnB 0 hts ggX11_init_X5_init rfl rfl rfl (X.2.1.2.1 (_, _, _) (List.mem_of_getElem? (i := 2) rfl)) (hts _ (List.mem_of_getElem? (i := 28) rfl)) hdX5_init ⟨Nat.le_of_ble_eq_true rfl, Nat.le_of_ble_eq_true rfl⟩, rfl, hts _ (List.mem_of_getElem? (i := 53) rfl)⟩ rfl hl.1 rfl (Nat.le_of_ble_eq_true rfl) dX11_init_123 ⟨(Nat.le_of_ble_eq_true rfl), (Nat.le_of_ble_eq_true rfl)⟩ (fun u H locs hp w => ?_)
            obtain ⟨q23, hq23, rfl⟩ := hp
            have w : hg_W D b0 (L ++ [q1, q2, q3, q4, q5, q6, q7, q8, q9, q10, q11, q12, q13, q14, q15, q16, q17, q18, q19, q20, q21, q22] ++ [q23]) (va_up (va_up (al_F f [(a, .inr (9, [.ref q1, .ref q2, .ref q4, .ref q6, .ref q7, .ref q8, .ref q9, .ref q10, .int (0), .ref q11, .int (0), .int (0)])), (q1, .inl (D.1 14, 8, .inr (.inr (.inr (.inr (va_up (va_up (va_up (va_up (fun _ => none) 0 (some q14)) 1 (some q16)) 2 (some q18)) 3 (some q20))))))), (q2, .inr (6, [.ref q3, .int 0, .int 0, .int 0, .int 0])), (q3, .inl (D.1 11, 100, .inl (fun _ => 0))), (q4, .inr (7, [.ref q5, .int 0])), (q5, .inl (D.1 11, 16, .inl (fun _ => 0))), (q6, .inl (D.1 13, 2, .inr (.inr (.inr (.inr (fun _ => none)))))), (q7, .inl (D.1 11, 64, .inl (fun _ => 0))), (q8, .inl (D.1 11, 24, .inl (fun _ => 0))), (q9, .inl (D.1 11, 24, .inl (fun _ => 0))), (q10, .inl (D.1 11, 24, .inl (fun _ => 0))), (q11, .inr (2, [.int 0, .int 0, .int 0, .int 0, .ref q12, .ref q13])), (q12, .inl (D.1 11, 3, .inl (fun _ => 0))), (q13, .inl (D.1 15, 6, .inr (.inr (.inr (.inr (fun _ => none)))))), (q14, .inr (4, [.int (-1), .int 0, .ref q15])), (q15, .inl (D.1 11, 40, .inl (fun _ => 0))), (q16, .inr (4, [.int (-1), .int 0, .ref q17])), (q17, .inl (D.1 11, 40, .inl (fun _ => 0))), (q18, .inr (4, [.int (-1), .int 0, .ref q19])), (q19, .inl (D.1 11, 40, .inl (fun _ => 0))), (q20, .inr (4, [.int (-1), .int 0, .ref q21])), (q21, .inl (D.1 11, 40, .inl (fun _ => 0))), (q22, .inr (4, [.int 0, .int 0, .null]))]) q22 (.inr (4, [.int (-1), .int 0, .ref q23]))) q23 (.inl (D.1 11, 40, .inl (fun _ => 0)))) s.heap H locs := w
            rw [al_upK hnd (k := 22) (by rfl) (by rfl)] at w
            have hnd0 := hnd
            have w : hg_W D b0 (L ++ [q1, q2, q3, q4, q5, q6, q7, q8, q9, q10, q11, q12, q13, q14, q15, q16, q17, q18, q19, q20, q21, q22, q23]) (al_F f [(a, .inr (9, [.ref q1, .ref q2, .ref q4, .ref q6, .ref q7, .ref q8, .ref q9, .ref q10, .int (0), .ref q11, .int (0), .int (0)])), (q1, .inl (D.1 14, 8, .inr (.inr (.inr (.inr (va_up (va_up (va_up (va_up (fun _ => none) 0 (some q14)) 1 (some q16)) 2 (some q18)) 3 (some q20))))))), (q2, .inr (6, [.ref q3, .int 0, .int 0, .int 0, .int 0])), (q3, .inl (D.1 11, 100, .inl (fun _ => 0))), (q4, .inr (7, [.ref q5, .int 0])), (q5, .inl (D.1 11, 16, .inl (fun _ => 0))), (q6, .inl (D.1 13, 2, .inr (.inr (.inr (.inr (fun _ => none)))))), (q7, .inl (D.1 11, 64, .inl (fun _ => 0))), (q8, .inl (D.1 11, 24, .inl (fun _ => 0))), (q9, .inl (D.1 11, 24, .inl (fun _ => 0))), (q10, .inl (D.1 11, 24, .inl (fun _ => 0))), (q11, .inr (2, [.int 0, .int 0, .int 0, .int 0, .ref q12, .ref q13])), (q12, .inl (D.1 11, 3, .inl (fun _ => 0))), (q13, .inl (D.1 15, 6, .inr (.inr (.inr (.inr (fun _ => none)))))), (q14, .inr (4, [.int (-1), .int 0, .ref q15])), (q15, .inl (D.1 11, 40, .inl (fun _ => 0))), (q16, .inr (4, [.int (-1), .int 0, .ref q17])), (q17, .inl (D.1 11, 40, .inl (fun _ => 0))), (q18, .inr (4, [.int (-1), .int 0, .ref q19])), (q19, .inl (D.1 11, 40, .inl (fun _ => 0))), (q20, .inr (4, [.int (-1), .int 0, .ref q21])), (q21, .inl (D.1 11, 40, .inl (fun _ => 0))), (q22, .inr (4, [.int (-1), .int 0, .ref q23])), (q23, .inl (D.1 11, 40, .inl (fun _ => 0)))]) s.heap H locs := al_grow w (al_notin ha hq23)
            have hnd : [a, q1, q2, q3, q4, q5, q6, q7, q8, q9, q10, q11, q12, q13, q14, q15, q16, q17, q18, q19, q20, q21, q22, q23].Nodup := al_nd hnd0 ha hq23
            refine (show W p l e _ s m args below meth c H locs _ _ Q (F0 m 126 ls [.ref q22, .int (0 + 1 + 1 + 1 + 1), .ref q1]) from ?_)
            refine hg_aast X w 3 rfl (List.mem_append_right _ (List.mem_of_getElem? (i := 0) rfl)) (al_atK hnd (k := 1) (by rfl) (by rfl)) (List.mem_append_right _ (List.mem_of_getElem? (i := 21) rfl)) (al_atK hnd (k := 22) (by rfl) (by rfl)) rfl (Or.inr rfl) 4 rfl (by decide) (by decide) dX11_init_126 (fun H locs w => ?_)
            have w : hg_W D b0 (L ++ [q1, q2, q3, q4, q5, q6, q7, q8, q9, q10, q11, q12, q13, q14, q15, q16, q17, q18, q19, q20, q21, q22, q23]) (al_F f [(a, .inr (9, [.ref q1, .ref q2, .ref q4, .ref q6, .ref q7, .ref q8, .ref q9, .ref q10, .int (0), .ref q11, .int (0), .int (0)])), (q1, .inl (D.1 14, 8, .inr (.inr (.inr (.inr (va_up (va_up (va_up (va_up (va_up (fun _ => none) 0 (some q14)) 1 (some q16)) 2 (some q18)) 3 (some q20)) 4 (some q22))))))), (q2, .inr (6, [.ref q3, .int 0, .int 0, .int 0, .int 0])), (q3, .inl (D.1 11, 100, .inl (fun _ => 0))), (q4, .inr (7, [.ref q5, .int 0])), (q5, .inl (D.1 11, 16, .inl (fun _ => 0))), (q6, .inl (D.1 13, 2, .inr (.inr (.inr (.inr (fun _ => none)))))), (q7, .inl (D.1 11, 64, .inl (fun _ => 0))), (q8, .inl (D.1 11, 24, .inl (fun _ => 0))), (q9, .inl (D.1 11, 24, .inl (fun _ => 0))), (q10, .inl (D.1 11, 24, .inl (fun _ => 0))), (q11, .inr (2, [.int 0, .int 0, .int 0, .int 0, .ref q12, .ref q13])), (q12, .inl (D.1 11, 3, .inl (fun _ => 0))), (q13, .inl (D.1 15, 6, .inr (.inr (.inr (.inr (fun _ => none)))))), (q14, .inr (4, [.int (-1), .int 0, .ref q15])), (q15, .inl (D.1 11, 40, .inl (fun _ => 0))), (q16, .inr (4, [.int (-1), .int 0, .ref q17])), (q17, .inl (D.1 11, 40, .inl (fun _ => 0))), (q18, .inr (4, [.int (-1), .int 0, .ref q19])), (q19, .inl (D.1 11, 40, .inl (fun _ => 0))), (q20, .inr (4, [.int (-1), .int 0, .ref q21])), (q21, .inl (D.1 11, 40, .inl (fun _ => 0))), (q22, .inr (4, [.int (-1), .int 0, .ref q23])), (q23, .inl (D.1 11, 40, .inl (fun _ => 0)))]) s.heap H locs := al_chgK hnd (k := 1) w (by rfl) (by rfl)
            refine lv_iinc (v := 0 + 1 + 1 + 1 + 1 + 1) (lv' := [(1, .int (0 + 1 + 1 + 1 + 1 + 1)), (0, .ref a)]) hx hb dX11_init_127 hl (k := 0) rfl rfl (by decide) rfl (fun ls hl => ?_)
            refine lv_goto (tgt := 105) hx hb dX11_init_130 (by decide) ?_
            refine lv_iload_n hx hb dX11_init_105 rfl (lv_at hl 0 rfl) ?_
            refine lv_aload_n hx hb dX11_init_106 rfl (lv_at hl 1 rfl) ?_
            refine hg_get (C := RX11) (T := TX11) (N := 12) (ci := 9) X w (List.mem_append_left _ ha) (al_atK hnd (k := 0) (by rfl) (by rfl)) hin11 rfl 0 (by decide) (List.mem_of_getElem? (i := 5) rfl) (Or.inl rfl) rfl dX11_init_107 ?_
            refine hg_alenR X w 3 rfl (List.mem_append_right _ (List.mem_of_getElem? (i := 0) rfl)) (al_atK hnd (k := 1) (by rfl) (by rfl)) dX11_init_110 ?_
            refine lv_icmp_ge (tgt := 133) hx hb dX11_init_111 (by decide) (fun c_111 => ?_) (fun c_111 => ?_)
            · exact absurd c_111 (by decide)
            · refine lv_aload_n hx hb dX11_init_114 rfl (lv_at hl 1 rfl) ?_
              refine hg_get (C := RX11) (T := TX11) (N := 12) (ci := 9) X w (List.mem_append_left _ ha) (al_atK hnd (k := 0) (by rfl) (by rfl)) hin11 rfl 0 (by decide) (List.mem_of_getElem? (i := 5) rfl) (Or.inl rfl) rfl dX11_init_115 ?_
              refine lv_iload_n hx hb dX11_init_118 rfl (lv_at hl 0 rfl) ?_
              refine hg_new X w (C := RX5) (T := TX5) (N := 3) (ci := 4) (ty0 := tyX5) hin5 tyX5_ok rfl (List.mem_of_getElem? (i := 4) rfl) (List.mem_of_getElem? (i := 27) rfl) (List.mem_of_getElem? (i := 28) rfl) (fs := [.int 0, .int 0, .null]) (fun j hj => by match j, hj with | 0, _ | 1, _ | 2, _ => rfl) (Nat.le_of_ble_eq_true rfl) (Nat.le_of_ble_eq_true rfl) dX11_init_119 (fun q24 H hq24 w => ?_)
              have hnd0 := hnd
              have w : hg_W D b0 (L ++ [q1, q2, q3, q4, q5, q6, q7, q8, q9, q10, q11, q12, q13, q14, q15, q16, q17, q18, q19, q20, q21, q22, q23, q24]) (al_F f [(a, .inr (9, [.ref q1, .ref q2, .ref q4, .ref q6, .ref q7, .ref q8, .ref q9, .ref q10, .int (0), .ref q11, .int (0), .int (0)])), (q1, .inl (D.1 14, 8, .inr (.inr (.inr (.inr (va_up (va_up (va_up (va_up (va_up (fun _ => none) 0 (some q14)) 1 (some q16)) 2 (some q18)) 3 (some q20)) 4 (some q22))))))), (q2, .inr (6, [.ref q3, .int 0, .int 0, .int 0, .int 0])), (q3, .inl (D.1 11, 100, .inl (fun _ => 0))), (q4, .inr (7, [.ref q5, .int 0])), (q5, .inl (D.1 11, 16, .inl (fun _ => 0))), (q6, .inl (D.1 13, 2, .inr (.inr (.inr (.inr (fun _ => none)))))), (q7, .inl (D.1 11, 64, .inl (fun _ => 0))), (q8, .inl (D.1 11, 24, .inl (fun _ => 0))), (q9, .inl (D.1 11, 24, .inl (fun _ => 0))), (q10, .inl (D.1 11, 24, .inl (fun _ => 0))), (q11, .inr (2, [.int 0, .int 0, .int 0, .int 0, .ref q12, .ref q13])), (q12, .inl (D.1 11, 3, .inl (fun _ => 0))), (q13, .inl (D.1 15, 6, .inr (.inr (.inr (.inr (fun _ => none)))))), (q14, .inr (4, [.int (-1), .int 0, .ref q15])), (q15, .inl (D.1 11, 40, .inl (fun _ => 0))), (q16, .inr (4, [.int (-1), .int 0, .ref q17])), (q17, .inl (D.1 11, 40, .inl (fun _ => 0))), (q18, .inr (4, [.int (-1), .int 0, .ref q19])), (q19, .inl (D.1 11, 40, .inl (fun _ => 0))), (q20, .inr (4, [.int (-1), .int 0, .ref q21])), (q21, .inl (D.1 11, 40, .inl (fun _ => 0))), (q22, .inr (4, [.int (-1), .int 0, .ref q23])), (q23, .inl (D.1 11, 40, .inl (fun _ => 0))), (q24, .inr (4, [.int 0, .int 0, .null]))]) s.heap H locs := al_grow w (al_notin ha hq24)
              have hnd : [a, q1, q2, q3, q4, q5, q6, q7, q8, q9, q10, q11, q12, q13, q14, q15, q16, q17, q18, q19, q20, q21, q22, q23, q24].Nodup := al_nd hnd0 ha hq24
              refine lv_dup hx hb dX11_init_122 rfl ?_
              refine hg_initN (As := []) (rest := [.ref q24, .int (0 + 1 + 1 + 1 + 1 + 1), .ref q1]) X w (c_X5_init l D b0 (L ++ [q1, q2, q3, q4, q5, q6, q7, q8, q9, q10, q11, q12, q13, q14, q15, q16, q17, q18, q19, q20, q21, q22, q23, q24]) (al_F f [(a, .inr (9, [.ref q1, .ref q2, .ref q4, .ref q6, .ref q7, .ref q8, .ref q9, .ref q10, .int (0), .ref q11, .int (0), .int (0)])), (q1, .inl (D.1 14, 8, .inr (.inr (.inr (.inr (va_up (va_up (va_up (va_up (va_up (fun _ => none) 0 (some q14)) 1 (some q16)) 2 (some q18)) 3 (some q20)) 4 (some q22))))))), (q2, .inr (6, [.ref q3, .int 0, .int 0, .int 0, .int 0])), (q3, .inl (D.1 11, 100, .inl (fun _ => 0))), (q4, .inr (7, [.ref q5, .int 0])), (q5, .inl (D.1 11, 16, .inl (fun _ => 0))), (q6, .inl (D.1 13, 2, .inr (.inr (.inr (.inr (fun _ => none)))))), (q7, .inl (D.1 11, 64, .inl (fun _ => 0))), (q8, .inl (D.1 11, 24, .inl (fun _ => 0))), (q9, .inl (D.1 11, 24, .inl (fun _ => 0))), (q10, .inl (D.1 11, 24, .inl (fun _ => 0))), (q11, .inr (2, [.int 0, .int 0, .int 0, .int 0, .ref q12, .ref q13])), (q12, .inl (D.1 11, 3, .inl (fun _ => 0))), (q13, .inl (D.1 15, 6, .inr (.inr (.inr (.inr (fun _ => none)))))), (q14, .inr (4, [.int (-1), .int 0, .ref q15])), (q15, .inl (D.1 11, 40, .inl (fun _ => 0))), (q16, .inr (4, [.int (-1), .int 0, .ref q17])), (q17, .inl (D.1 11, 40, .inl (fun _ => 0))), (q18, .inr (4, [.int (-1), .int 0, .ref q19])), (q19, .inl (D.1 11, 40, .inl (fun _ => 0))), (q20, .inr (4, [.int (-1), .int 0, .ref q21])), (q21, .inl (D.1 11, 40, .inl (fun _ => 0))), (q22, .inr (4, [.int (-1), .int 0, .ref q23])), (q23, .inl (D.1 11, 40, .inl (fun _ => 0))), (q24, .inr (4, [.int 0, .int 0, .null]))]) q24 (List.mem_append_right _ (List.mem_of_getElem? (i := 23) rfl)) (al_atK hnd (k := 24) (by rfl) (by rfl))) ⟨va_cnB 0 hts ggX11_init_X5_init rfl rfl rfl (X.2.1.2.1 (_, _, _) (List.mem_of_getElem? (i := 2) rfl)) (hts _ (List.mem_of_getElem? (i := 28) rfl)) hdX5_init ⟨Nat.le_of_ble_eq_true rfl, Nat.le_of_ble_eq_true rfl⟩, rfl, hts _ (List.mem_of_getElem? (i := 53) rfl)⟩ rfl hl.1 rfl (Nat.le_of_ble_eq_true rfl) dX11_init_123 ⟨(Nat.le_of_ble_eq_true rfl), (Nat.le_of_ble_eq_true rfl)⟩ (fun u H locs hp w => ?_)
              obtain ⟨q25, hq25, rfl⟩ := hp
              have w : hg_W D b0 (L ++ [q1, q2, q3, q4, q5, q6, q7, q8, q9, q10, q11, q12, q13, q14, q15, q16, q17, q18, q19, q20, q21, q22, q23, q24] ++ [q25]) (va_up (va_up (al_F f [(a, .inr (9, [.ref q1, .ref q2, .ref q4, .ref q6, .ref q7, .ref q8, .ref q9, .ref q10, .int (0), .ref q11, .int (0), .int (0)])), (q1, .inl (D.1 14, 8, .inr (.inr (.inr (.inr (va_up (va_up (va_up (va_up (va_up (fun _ => none) 0 (some q14)) 1 (some q16)) 2 (some q18)) 3 (some q20)) 4 (some q22))))))), (q2, .inr (6, [.ref q3, .int 0, .int 0, .int 0, .int 0])), (q3, .inl (D.1 11, 100, .inl (fun _ => 0))), (q4, .inr (7, [.ref q5, .int 0])), (q5, .inl (D.1 11, 16, .inl (fun _ => 0))), (q6, .inl (D.1 13, 2, .inr (.inr (.inr (.inr (fun _ => none)))))), (q7, .inl (D.1 11, 64, .inl (fun _ => 0))), (q8, .inl (D.1 11, 24, .inl (fun _ => 0))), (q9, .inl (D.1 11, 24, .inl (fun _ => 0))), (q10, .inl (D.1 11, 24, .inl (fun _ => 0))), (q11, .inr (2, [.int 0, .int 0, .int 0, .int 0, .ref q12, .ref q13])), (q12, .inl (D.1 11, 3, .inl (fun _ => 0))), (q13, .inl (D.1 15, 6, .inr (.inr (.inr (.inr (fun _ => none)))))), (q14, .inr (4, [.int (-1), .int 0, .ref q15])), (q15, .inl (D.1 11, 40, .inl (fun _ => 0))), (q16, .inr (4, [.int (-1), .int 0, .ref q17])), (q17, .inl (D.1 11, 40, .inl (fun _ => 0))), (q18, .inr (4, [.int (-1), .int 0, .ref q19])), (q19, .inl (D.1 11, 40, .inl (fun _ => 0))), (q20, .inr (4, [.int (-1), .int 0, .ref q21])), (q21, .inl (D.1 11, 40, .inl (fun _ => 0))), (q22, .inr (4, [.int (-1), .int 0, .ref q23])), (q23, .inl (D.1 11, 40, .inl (fun _ => 0))), (q24, .inr (4, [.int 0, .int 0, .null]))]) q24 (.inr (4, [.int (-1), .int 0, .ref q25]))) q25 (.inl (D.1 11, 40, .inl (fun _ => 0)))) s.heap H locs := w
              rw [al_upK hnd (k := 24) (by rfl) (by rfl)] at w
              have hnd0 := hnd
              have w : hg_W D b0 (L ++ [q1, q2, q3, q4, q5, q6, q7, q8, q9, q10, q11, q12, q13, q14, q15, q16, q17, q18, q19, q20, q21, q22, q23, q24, q25]) (al_F f [(a, .inr (9, [.ref q1, .ref q2, .ref q4, .ref q6, .ref q7, .ref q8, .ref q9, .ref q10, .int (0), .ref q11, .int (0), .int (0)])), (q1, .inl (D.1 14, 8, .inr (.inr (.inr (.inr (va_up (va_up (va_up (va_up (va_up (fun _ => none) 0 (some q14)) 1 (some q16)) 2 (some q18)) 3 (some q20)) 4 (some q22))))))), (q2, .inr (6, [.ref q3, .int 0, .int 0, .int 0, .int 0])), (q3, .inl (D.1 11, 100, .inl (fun _ => 0))), (q4, .inr (7, [.ref q5, .int 0])), (q5, .inl (D.1 11, 16, .inl (fun _ => 0))), (q6, .inl (D.1 13, 2, .inr (.inr (.inr (.inr (fun _ => none)))))), (q7, .inl (D.1 11, 64, .inl (fun _ => 0))), (q8, .inl (D.1 11, 24, .inl (fun _ => 0))), (q9, .inl (D.1 11, 24, .inl (fun _ => 0))), (q10, .inl (D.1 11, 24, .inl (fun _ => 0))), (q11, .inr (2, [.int 0, .int 0, .int 0, .int 0, .ref q12, .ref q13])), (q12, .inl (D.1 11, 3, .inl (fun _ => 0))), (q13, .inl (D.1 15, 6, .inr (.inr (.inr (.inr (fun _ => none)))))), (q14, .inr (4, [.int (-1), .int 0, .ref q15])), (q15, .inl (D.1 11, 40, .inl (fun _ => 0))), (q16, .inr (4, [.int (-1), .int 0, .ref q17])), (q17, .inl (D.1 11, 40, .inl (fun _ => 0))), (q18, .inr (4, [.int (-1), .int 0, .ref q19])), (q19, .inl (D.1 11, 40, .inl (fun _ => 0))), (q20, .inr (4, [.int (-1), .int 0, .ref q21])), (q21, .inl (D.1 11, 40, .inl (fun _ => 0))), (q22, .inr (4, [.int (-1), .int 0, .ref q23])), (q23, .inl (D.1 11, 40, .inl (fun _ => 0))), (q24, .inr (4, [.int (-1), .int 0, .ref q25])), (q25, .inl (D.1 11, 40, .inl (fun _ => 0)))]) s.heap H locs := al_grow w (al_notin ha hq25)
              have hnd : [a, q1, q2, q3, q4, q5, q6, q7, q8, q9, q10, q11, q12, q13, q14, q15, q16, q17, q18, q19, q20, q21, q22, q23, q24, q25].Nodup := al_nd hnd0 ha hq25
              refine (show W p l e _ s m args below meth c H locs _ _ Q (F0 m 126 ls [.ref q24, .int (0 + 1 + 1 + 1 + 1 + 1), .ref q1]) from ?_)
              refine hg_aast X w 3 rfl (List.mem_append_right _ (List.mem_of_getElem? (i := 0) rfl)) (al_atK hnd (k := 1) (by rfl) (by rfl)) (List.mem_append_right _ (List.mem_of_getElem? (i := 23) rfl)) (al_atK hnd (k := 24) (by rfl) (by rfl)) rfl (Or.inr rfl) 5 rfl (by decide) (by decide) dX11_init_126 (fun H locs w => ?_)
              have w : hg_W D b0 (L ++ [q1, q2, q3, q4, q5, q6, q7, q8, q9, q10, q11, q12, q13, q14, q15, q16, q17, q18, q19, q20, q21, q22, q23, q24, q25]) (al_F f [(a, .inr (9, [.ref q1, .ref q2, .ref q4, .ref q6, .ref q7, .ref q8, .ref q9, .ref q10, .int (0), .ref q11, .int (0), .int (0)])), (q1, .inl (D.1 14, 8, .inr (.inr (.inr (.inr (va_up (va_up (va_up (va_up (va_up (va_up (fun _ => none) 0 (some q14)) 1 (some q16)) 2 (some q18)) 3 (some q20)) 4 (some q22)) 5 (some q24))))))), (q2, .inr (6, [.ref q3, .int 0, .int 0, .int 0, .int 0])), (q3, .inl (D.1 11, 100, .inl (fun _ => 0))), (q4, .inr (7, [.ref q5, .int 0])), (q5, .inl (D.1 11, 16, .inl (fun _ => 0))), (q6, .inl (D.1 13, 2, .inr (.inr (.inr (.inr (fun _ => none)))))), (q7, .inl (D.1 11, 64, .inl (fun _ => 0))), (q8, .inl (D.1 11, 24, .inl (fun _ => 0))), (q9, .inl (D.1 11, 24, .inl (fun _ => 0))), (q10, .inl (D.1 11, 24, .inl (fun _ => 0))), (q11, .inr (2, [.int 0, .int 0, .int 0, .int 0, .ref q12, .ref q13])), (q12, .inl (D.1 11, 3, .inl (fun _ => 0))), (q13, .inl (D.1 15, 6, .inr (.inr (.inr (.inr (fun _ => none)))))), (q14, .inr (4, [.int (-1), .int 0, .ref q15])), (q15, .inl (D.1 11, 40, .inl (fun _ => 0))), (q16, .inr (4, [.int (-1), .int 0, .ref q17])), (q17, .inl (D.1 11, 40, .inl (fun _ => 0))), (q18, .inr (4, [.int (-1), .int 0, .ref q19])), (q19, .inl (D.1 11, 40, .inl (fun _ => 0))), (q20, .inr (4, [.int (-1), .int 0, .ref q21])), (q21, .inl (D.1 11, 40, .inl (fun _ => 0))), (q22, .inr (4, [.int (-1), .int 0, .ref q23])), (q23, .inl (D.1 11, 40, .inl (fun _ => 0))), (q24, .inr (4, [.int (-1), .int 0, .ref q25])), (q25, .inl (D.1 11, 40, .inl (fun _ => 0)))]) s.heap H locs := al_chgK hnd (k := 1) w (by rfl) (by rfl)
              refine lv_iinc (v := 0 + 1 + 1 + 1 + 1 + 1 + 1) (lv' := [(1, .int (0 + 1 + 1 + 1 + 1 + 1 + 1)), (0, .ref a)]) hx hb dX11_init_127 hl (k := 0) rfl rfl (by decide) rfl (fun ls hl => ?_)
              refine lv_goto (tgt := 105) hx hb dX11_init_130 (by decide) ?_
              refine lv_iload_n hx hb dX11_init_105 rfl (lv_at hl 0 rfl) ?_
              refine lv_aload_n hx hb dX11_init_106 rfl (lv_at hl 1 rfl) ?_
              refine hg_get (C := RX11) (T := TX11) (N := 12) (ci := 9) X w (List.mem_append_left _ ha) (al_atK hnd (k := 0) (by rfl) (by rfl)) hin11 rfl 0 (by decide) (List.mem_of_getElem? (i := 5) rfl) (Or.inl rfl) rfl dX11_init_107 ?_
              refine hg_alenR X w 3 rfl (List.mem_append_right _ (List.mem_of_getElem? (i := 0) rfl)) (al_atK hnd (k := 1) (by rfl) (by rfl)) dX11_init_110 ?_
              refine lv_icmp_ge (tgt := 133) hx hb dX11_init_111 (by decide) (fun c_111 => ?_) (fun c_111 => ?_)
              · exact absurd c_111 (by decide)
              · refine lv_aload_n hx hb dX11_init_114 rfl (lv_at hl 1 rfl) ?_
                refine hg_get (C := RX11) (T := TX11) (N := 12) (ci := 9) X w (List.mem_append_left _ ha) (al_atK hnd (k := 0) (by rfl) (by rfl)) hin11 rfl 0 (by decide) (List.mem_of_getElem? (i := 5) rfl) (Or.inl rfl) rfl dX11_init_115 ?_
                refine lv_iload_n hx hb dX11_init_118 rfl (lv_at hl 0 rfl) ?_
                refine hg_new X w (C := RX5) (T := TX5) (N := 3) (ci := 4) (ty0 := tyX5) hin5 tyX5_ok rfl (List.mem_of_getElem? (i := 4) rfl) (List.mem_of_getElem? (i := 27) rfl) (List.mem_of_getElem? (i := 28) rfl) (fs := [.int 0, .int 0, .null]) (fun j hj => by match j, hj with | 0, _ | 1, _ | 2, _ => rfl) (Nat.le_of_ble_eq_true rfl) (Nat.le_of_ble_eq_true rfl) dX11_init_119 (fun q26 H hq26 w => ?_)
                have hnd0 := hnd
                have w : hg_W D b0 (L ++ [q1, q2, q3, q4, q5, q6, q7, q8, q9, q10, q11, q12, q13, q14, q15, q16, q17, q18, q19, q20, q21, q22, q23, q24, q25, q26]) (al_F f [(a, .inr (9, [.ref q1, .ref q2, .ref q4, .ref q6, .ref q7, .ref q8, .ref q9, .ref q10, .int (0), .ref q11, .int (0), .int (0)])), (q1, .inl (D.1 14, 8, .inr (.inr (.inr (.inr (va_up (va_up (va_up (va_up (va_up (va_up (fun _ => none) 0 (some q14)) 1 (some q16)) 2 (some q18)) 3 (some q20)) 4 (some q22)) 5 (some q24))))))), (q2, .inr (6, [.ref q3, .int 0, .int 0, .int 0, .int 0])), (q3, .inl (D.1 11, 100, .inl (fun _ => 0))), (q4, .inr (7, [.ref q5, .int 0])), (q5, .inl (D.1 11, 16, .inl (fun _ => 0))), (q6, .inl (D.1 13, 2, .inr (.inr (.inr (.inr (fun _ => none)))))), (q7, .inl (D.1 11, 64, .inl (fun _ => 0))), (q8, .inl (D.1 11, 24, .inl (fun _ => 0))), (q9, .inl (D.1 11, 24, .inl (fun _ => 0))), (q10, .inl (D.1 11, 24, .inl (fun _ => 0))), (q11, .inr (2, [.int 0, .int 0, .int 0, .int 0, .ref q12, .ref q13])), (q12, .inl (D.1 11, 3, .inl (fun _ => 0))), (q13, .inl (D.1 15, 6, .inr (.inr (.inr (.inr (fun _ => none)))))), (q14, .inr (4, [.int (-1), .int 0, .ref q15])), (q15, .inl (D.1 11, 40, .inl (fun _ => 0))), (q16, .inr (4, [.int (-1), .int 0, .ref q17])), (q17, .inl (D.1 11, 40, .inl (fun _ => 0))), (q18, .inr (4, [.int (-1), .int 0, .ref q19])), (q19, .inl (D.1 11, 40, .inl (fun _ => 0))), (q20, .inr (4, [.int (-1), .int 0, .ref q21])), (q21, .inl (D.1 11, 40, .inl (fun _ => 0))), (q22, .inr (4, [.int (-1), .int 0, .ref q23])), (q23, .inl (D.1 11, 40, .inl (fun _ => 0))), (q24, .inr (4, [.int (-1), .int 0, .ref q25])), (q25, .inl (D.1 11, 40, .inl (fun _ => 0))), (q26, .inr (4, [.int 0, .int 0, .null]))]) s.heap H locs := al_grow w (al_notin ha hq26)
                have hnd : [a, q1, q2, q3, q4, q5, q6, q7, q8, q9, q10, q11, q12, q13, q14, q15, q16, q17, q18, q19, q20, q21, q22, q23, q24, q25, q26].Nodup := al_nd hnd0 ha hq26
                refine lv_dup hx hb dX11_init_122 rfl ?_
                refine hg_initN (As := []) (rest := [.ref q26, .int (0 + 1 + 1 + 1 + 1 + 1 + 1), .ref q1]) X w (c_X5_init l D b0 (L ++ [q1, q2, q3, q4, q5, q6, q7, q8, q9, q10, q11, q12, q13, q14, q15, q16, q17, q18, q19, q20, q21, q22, q23, q24, q25, q26]) (al_F f [(a, .inr (9, [.ref q1, .ref q2, .ref q4, .ref q6, .ref q7, .ref q8, .ref q9, .ref q10, .int (0), .ref q11, .int (0), .int (0)])), (q1, .inl (D.1 14, 8, .inr (.inr (.inr (.inr (va_up (va_up (va_up (va_up (va_up (va_up (fun _ => none) 0 (some q14)) 1 (some q16)) 2 (some q18)) 3 (some q20)) 4 (some q22)) 5 (some q24))))))), (q2, .inr (6, [.ref q3, .int 0, .int 0, .int 0, .int 0])), (q3, .inl (D.1 11, 100, .inl (fun _ => 0))), (q4, .inr (7, [.ref q5, .int 0])), (q5, .inl (D.1 11, 16, .inl (fun _ => 0))), (q6, .inl (D.1 13, 2, .inr (.inr (.inr (.inr (fun _ => none)))))), (q7, .inl (D.1 11, 64, .inl (fun _ => 0))), (q8, .inl (D.1 11, 24, .inl (fun _ => 0))), (q9, .inl (D.1 11, 24, .inl (fun _ => 0))), (q10, .inl (D.1 11, 24, .inl (fun _ => 0))), (q11, .inr (2, [.int 0, .int 0, .int 0, .int 0, .ref q12, .ref q13])), (q12, .inl (D.1 11, 3, .inl (fun _ => 0))), (q13, .inl (D.1 15, 6, .inr (.inr (.inr (.inr (fun _ => none)))))), (q14, .inr (4, [.int (-1), .int 0, .ref q15])), (q15, .inl (D.1 11, 40, .inl (fun _ => 0))), (q16, .inr (4, [.int (-1), .int 0, .ref q17])), (q17, .inl (D.1 11, 40, .inl (fun _ => 0))), (q18, .inr (4, [.int (-1), .int 0, .ref q19])), (q19, .inl (D.1 11, 40, .inl (fun _ => 0))), (q20, .inr (4, [.int (-1), .int 0, .ref q21])), (q21, .inl (D.1 11, 40, .inl (fun _ => 0))), (q22, .inr (4, [.int (-1), .int 0, .ref q23])), (q23, .inl (D.1 11, 40, .inl (fun _ => 0))), (q24, .inr (4, [.int (-1), .int 0, .ref q25])), (q25, .inl (D.1 11, 40, .inl (fun _ => 0))), (q26, .inr (4, [.int 0, .int 0, .null]))]) q26 (List.mem_append_right _ (List.mem_of_getElem? (i := 25) rfl)) (al_atK hnd (k := 26) (by rfl) (by rfl))) ⟨va_cnB 0 hts ggX11_init_X5_init rfl rfl rfl (X.2.1.2.1 (_, _, _) (List.mem_of_getElem? (i := 2) rfl)) (hts _ (List.mem_of_getElem? (i := 28) rfl)) hdX5_init ⟨Nat.le_of_ble_eq_true rfl, Nat.le_of_ble_eq_true rfl⟩, rfl, hts _ (List.mem_of_getElem? (i := 53) rfl)⟩ rfl hl.1 rfl (Nat.le_of_ble_eq_true rfl) dX11_init_123 ⟨(Nat.le_of_ble_eq_true rfl), (Nat.le_of_ble_eq_true rfl)⟩ (fun u H locs hp w => ?_)
                obtain ⟨q27, hq27, rfl⟩ := hp
                have w : hg_W D b0 (L ++ [q1, q2, q3, q4, q5, q6, q7, q8, q9, q10, q11, q12, q13, q14, q15, q16, q17, q18, q19, q20, q21, q22, q23, q24, q25, q26] ++ [q27]) (va_up (va_up (al_F f [(a, .inr (9, [.ref q1, .ref q2, .ref q4, .ref q6, .ref q7, .ref q8, .ref q9, .ref q10, .int (0), .ref q11, .int (0), .int (0)])), (q1, .inl (D.1 14, 8, .inr (.inr (.inr (.inr (va_up (va_up (va_up (va_up (va_up (va_up (fun _ => none) 0 (some q14)) 1 (some q16)) 2 (some q18)) 3 (some q20)) 4 (some q22)) 5 (some q24))))))), (q2, .inr (6, [.ref q3, .int 0, .int 0, .int 0, .int 0])), (q3, .inl (D.1 11, 100, .inl (fun _ => 0))), (q4, .inr (7, [.ref q5, .int 0])), (q5, .inl (D.1 11, 16, .inl (fun _ => 0))), (q6, .inl (D.1 13, 2, .inr (.inr (.inr (.inr (fun _ => none)))))), (q7, .inl (D.1 11, 64, .inl (fun _ => 0))), (q8, .inl (D.1 11, 24, .inl (fun _ => 0))), (q9, .inl (D.1 11, 24, .inl (fun _ => 0))), (q10, .inl (D.1 11, 24, .inl (fun _ => 0))), (q11, .inr (2, [.int 0, .int 0, .int 0, .int 0, .ref q12, .ref q13])), (q12, .inl (D.1 11, 3, .inl (fun _ => 0))), (q13, .inl (D.1 15, 6, .inr (.inr (.inr (.inr (fun _ => none)))))), (q14, .inr (4, [.int (-1), .int 0, .ref q15])), (q15, .inl (D.1 11, 40, .inl (fun _ => 0))), (q16, .inr (4, [.int (-1), .int 0, .ref q17])), (q17, .inl (D.1 11, 40, .inl (fun _ => 0))), (q18, .inr (4, [.int (-1), .int 0, .ref q19])), (q19, .inl (D.1 11, 40, .inl (fun _ => 0))), (q20, .inr (4, [.int (-1), .int 0, .ref q21])), (q21, .inl (D.1 11, 40, .inl (fun _ => 0))), (q22, .inr (4, [.int (-1), .int 0, .ref q23])), (q23, .inl (D.1 11, 40, .inl (fun _ => 0))), (q24, .inr (4, [.int (-1), .int 0, .ref q25])), (q25, .inl (D.1 11, 40, .inl (fun _ => 0))), (q26, .inr (4, [.int 0, .int 0, .null]))]) q26 (.inr (4, [.int (-1), .int 0, .ref q27]))) q27 (.inl (D.1 11, 40, .inl (fun _ => 0)))) s.heap H locs := w
                rw [al_upK hnd (k := 26) (by rfl) (by rfl)] at w
                have hnd0 := hnd
                have w : hg_W D b0 (L ++ [q1, q2, q3, q4, q5, q6, q7, q8, q9, q10, q11, q12, q13, q14, q15, q16, q17, q18, q19, q20, q21, q22, q23, q24, q25, q26, q27]) (al_F f [(a, .inr (9, [.ref q1, .ref q2, .ref q4, .ref q6, .ref q7, .ref q8, .ref q9, .ref q10, .int (0), .ref q11, .int (0), .int (0)])), (q1, .inl (D.1 14, 8, .inr (.inr (.inr (.inr (va_up (va_up (va_up (va_up (va_up (va_up (fun _ => none) 0 (some q14)) 1 (some q16)) 2 (some q18)) 3 (some q20)) 4 (some q22)) 5 (some q24))))))), (q2, .inr (6, [.ref q3, .int 0, .int 0, .int 0, .int 0])), (q3, .inl (D.1 11, 100, .inl (fun _ => 0))), (q4, .inr (7, [.ref q5, .int 0])), (q5, .inl (D.1 11, 16, .inl (fun _ => 0))), (q6, .inl (D.1 13, 2, .inr (.inr (.inr (.inr (fun _ => none)))))), (q7, .inl (D.1 11, 64, .inl (fun _ => 0))), (q8, .inl (D.1 11, 24, .inl (fun _ => 0))), (q9, .inl (D.1 11, 24, .inl (fun _ => 0))), (q10, .inl (D.1 11, 24, .inl (fun _ => 0))), (q11, .inr (2, [.int 0, .int 0, .int 0, .int 0, .ref q12, .ref q13])), (q12, .inl (D.1 11, 3, .inl (fun _ => 0))), (q13, .inl (D.1 15, 6, .inr (.inr (.inr (.inr (fun _ => none)))))), (q14, .inr (4, [.int (-1), .int 0, .ref q15])), (q15, .inl (D.1 11, 40, .inl (fun _ => 0))), (q16, .inr (4, [.int (-1), .int 0, .ref q17])), (q17, .inl (D.1 11, 40, .inl (fun _ => 0))), (q18, .inr (4, [.int (-1), .int 0, .ref q19])), (q19, .inl (D.1 11, 40, .inl (fun _ => 0))), (q20, .inr (4, [.int (-1), .int 0, .ref q21])), (q21, .inl (D.1 11, 40, .inl (fun _ => 0))), (q22, .inr (4, [.int (-1), .int 0, .ref q23])), (q23, .inl (D.1 11, 40, .inl (fun _ => 0))), (q24, .inr (4, [.int (-1), .int 0, .ref q25])), (q25, .inl (D.1 11, 40, .inl (fun _ => 0))), (q26, .inr (4, [.int (-1), .int 0, .ref q27])), (q27, .inl (D.1 11, 40, .inl (fun _ => 0)))]) s.heap H locs := al_grow w (al_notin ha hq27)
                have hnd : [a, q1, q2, q3, q4, q5, q6, q7, q8, q9, q10, q11, q12, q13, q14, q15, q16, q17, q18, q19, q20, q21, q22, q23, q24, q25, q26, q27].Nodup := al_nd hnd0 ha hq27
                refine (show W p l e _ s m args below meth c H locs _ _ Q (F0 m 126 ls [.ref q26, .int (0 + 1 + 1 + 1 + 1 + 1 + 1), .ref q1]) from ?_)
                refine hg_aast X w 3 rfl (List.mem_append_right _ (List.mem_of_getElem? (i := 0) rfl)) (al_atK hnd (k := 1) (by rfl) (by rfl)) (List.mem_append_right _ (List.mem_of_getElem? (i := 25) rfl)) (al_atK hnd (k := 26) (by rfl) (by rfl)) rfl (Or.inr rfl) 6 rfl (by decide) (by decide) dX11_init_126 (fun H locs w => ?_)
                have w : hg_W D b0 (L ++ [q1, q2, q3, q4, q5, q6, q7, q8, q9, q10, q11, q12, q13, q14, q15, q16, q17, q18, q19, q20, q21, q22, q23, q24, q25, q26, q27]) (al_F f [(a, .inr (9, [.ref q1, .ref q2, .ref q4, .ref q6, .ref q7, .ref q8, .ref q9, .ref q10, .int (0), .ref q11, .int (0), .int (0)])), (q1, .inl (D.1 14, 8, .inr (.inr (.inr (.inr (va_up (va_up (va_up (va_up (va_up (va_up (va_up (fun _ => none) 0 (some q14)) 1 (some q16)) 2 (some q18)) 3 (some q20)) 4 (some q22)) 5 (some q24)) 6 (some q26))))))), (q2, .inr (6, [.ref q3, .int 0, .int 0, .int 0, .int 0])), (q3, .inl (D.1 11, 100, .inl (fun _ => 0))), (q4, .inr (7, [.ref q5, .int 0])), (q5, .inl (D.1 11, 16, .inl (fun _ => 0))), (q6, .inl (D.1 13, 2, .inr (.inr (.inr (.inr (fun _ => none)))))), (q7, .inl (D.1 11, 64, .inl (fun _ => 0))), (q8, .inl (D.1 11, 24, .inl (fun _ => 0))), (q9, .inl (D.1 11, 24, .inl (fun _ => 0))), (q10, .inl (D.1 11, 24, .inl (fun _ => 0))), (q11, .inr (2, [.int 0, .int 0, .int 0, .int 0, .ref q12, .ref q13])), (q12, .inl (D.1 11, 3, .inl (fun _ => 0))), (q13, .inl (D.1 15, 6, .inr (.inr (.inr (.inr (fun _ => none)))))), (q14, .inr (4, [.int (-1), .int 0, .ref q15])), (q15, .inl (D.1 11, 40, .inl (fun _ => 0))), (q16, .inr (4, [.int (-1), .int 0, .ref q17])), (q17, .inl (D.1 11, 40, .inl (fun _ => 0))), (q18, .inr (4, [.int (-1), .int 0, .ref q19])), (q19, .inl (D.1 11, 40, .inl (fun _ => 0))), (q20, .inr (4, [.int (-1), .int 0, .ref q21])), (q21, .inl (D.1 11, 40, .inl (fun _ => 0))), (q22, .inr (4, [.int (-1), .int 0, .ref q23])), (q23, .inl (D.1 11, 40, .inl (fun _ => 0))), (q24, .inr (4, [.int (-1), .int 0, .ref q25])), (q25, .inl (D.1 11, 40, .inl (fun _ => 0))), (q26, .inr (4, [.int (-1), .int 0, .ref q27])), (q27, .inl (D.1 11, 40, .inl (fun _ => 0)))]) s.heap H locs := al_chgK hnd (k := 1) w (by rfl) (by rfl)
                refine lv_iinc (v := 0 + 1 + 1 + 1 + 1 + 1 + 1 + 1) (lv' := [(1, .int (0 + 1 + 1 + 1 + 1 + 1 + 1 + 1)), (0, .ref a)]) hx hb dX11_init_127 hl (k := 0) rfl rfl (by decide) rfl (fun ls hl => ?_)
                refine lv_goto (tgt := 105) hx hb dX11_init_130 (by decide) ?_
                refine lv_iload_n hx hb dX11_init_105 rfl (lv_at hl 0 rfl) ?_
                refine lv_aload_n hx hb dX11_init_106 rfl (lv_at hl 1 rfl) ?_
                refine hg_get (C := RX11) (T := TX11) (N := 12) (ci := 9) X w (List.mem_append_left _ ha) (al_atK hnd (k := 0) (by rfl) (by rfl)) hin11 rfl 0 (by decide) (List.mem_of_getElem? (i := 5) rfl) (Or.inl rfl) rfl dX11_init_107 ?_
                refine hg_alenR X w 3 rfl (List.mem_append_right _ (List.mem_of_getElem? (i := 0) rfl)) (al_atK hnd (k := 1) (by rfl) (by rfl)) dX11_init_110 ?_
                refine lv_icmp_ge (tgt := 133) hx hb dX11_init_111 (by decide) (fun c_111 => ?_) (fun c_111 => ?_)
                · exact absurd c_111 (by decide)
                · refine lv_aload_n hx hb dX11_init_114 rfl (lv_at hl 1 rfl) ?_
                  refine hg_get (C := RX11) (T := TX11) (N := 12) (ci := 9) X w (List.mem_append_left _ ha) (al_atK hnd (k := 0) (by rfl) (by rfl)) hin11 rfl 0 (by decide) (List.mem_of_getElem? (i := 5) rfl) (Or.inl rfl) rfl dX11_init_115 ?_
                  refine lv_iload_n hx hb dX11_init_118 rfl (lv_at hl 0 rfl) ?_
                  refine hg_new X w (C := RX5) (T := TX5) (N := 3) (ci := 4) (ty0 := tyX5) hin5 tyX5_ok rfl (List.mem_of_getElem? (i := 4) rfl) (List.mem_of_getElem? (i := 27) rfl) (List.mem_of_getElem? (i := 28) rfl) (fs := [.int 0, .int 0, .null]) (fun j hj => by match j, hj with | 0, _ | 1, _ | 2, _ => rfl) (Nat.le_of_ble_eq_true rfl) (Nat.le_of_ble_eq_true rfl) dX11_init_119 (fun q28 H hq28 w => ?_)
                  have hnd0 := hnd
                  have w : hg_W D b0 (L ++ [q1, q2, q3, q4, q5, q6, q7, q8, q9, q10, q11, q12, q13, q14, q15, q16, q17, q18, q19, q20, q21, q22, q23, q24, q25, q26, q27, q28]) (al_F f [(a, .inr (9, [.ref q1, .ref q2, .ref q4, .ref q6, .ref q7, .ref q8, .ref q9, .ref q10, .int (0), .ref q11, .int (0), .int (0)])), (q1, .inl (D.1 14, 8, .inr (.inr (.inr (.inr (va_up (va_up (va_up (va_up (va_up (va_up (va_up (fun _ => none) 0 (some q14)) 1 (some q16)) 2 (some q18)) 3 (some q20)) 4 (some q22)) 5 (some q24)) 6 (some q26))))))), (q2, .inr (6, [.ref q3, .int 0, .int 0, .int 0, .int 0])), (q3, .inl (D.1 11, 100, .inl (fun _ => 0))), (q4, .inr (7, [.ref q5, .int 0])), (q5, .inl (D.1 11, 16, .inl (fun _ => 0))), (q6, .inl (D.1 13, 2, .inr (.inr (.inr (.inr (fun _ => none)))))), (q7, .inl (D.1 11, 64, .inl (fun _ => 0))), (q8, .inl (D.1 11, 24, .inl (fun _ => 0))), (q9, .inl (D.1 11, 24, .inl (fun _ => 0))), (q10, .inl (D.1 11, 24, .inl (fun _ => 0))), (q11, .inr (2, [.int 0, .int 0, .int 0, .int 0, .ref q12, .ref q13])), (q12, .inl (D.1 11, 3, .inl (fun _ => 0))), (q13, .inl (D.1 15, 6, .inr (.inr (.inr (.inr (fun _ => none)))))), (q14, .inr (4, [.int (-1), .int 0, .ref q15])), (q15, .inl (D.1 11, 40, .inl (fun _ => 0))), (q16, .inr (4, [.int (-1), .int 0, .ref q17])), (q17, .inl (D.1 11, 40, .inl (fun _ => 0))), (q18, .inr (4, [.int (-1), .int 0, .ref q19])), (q19, .inl (D.1 11, 40, .inl (fun _ => 0))), (q20, .inr (4, [.int (-1), .int 0, .ref q21])), (q21, .inl (D.1 11, 40, .inl (fun _ => 0))), (q22, .inr (4, [.int (-1), .int 0, .ref q23])), (q23, .inl (D.1 11, 40, .inl (fun _ => 0))), (q24, .inr (4, [.int (-1), .int 0, .ref q25])), (q25, .inl (D.1 11, 40, .inl (fun _ => 0))), (q26, .inr (4, [.int (-1), .int 0, .ref q27])), (q27, .inl (D.1 11, 40, .inl (fun _ => 0))), (q28, .inr (4, [.int 0, .int 0, .null]))]) s.heap H locs := al_grow w (al_notin ha hq28)
                  have hnd : [a, q1, q2, q3, q4, q5, q6, q7, q8, q9, q10, q11, q12, q13, q14, q15, q16, q17, q18, q19, q20, q21, q22, q23, q24, q25, q26, q27, q28].Nodup := al_nd hnd0 ha hq28
                  refine lv_dup hx hb dX11_init_122 rfl ?_
                  refine hg_initN (As := []) (rest := [.ref q28, .int (0 + 1 + 1 + 1 + 1 + 1 + 1 + 1), .ref q1]) X w (c_X5_init l D b0 (L ++ [q1, q2, q3, q4, q5, q6, q7, q8, q9, q10, q11, q12, q13, q14, q15, q16, q17, q18, q19, q20, q21, q22, q23, q24, q25, q26, q27, q28]) (al_F f [(a, .inr (9, [.ref q1, .ref q2, .ref q4, .ref q6, .ref q7, .ref q8, .ref q9, .ref q10, .int (0), .ref q11, .int (0), .int (0)])), (q1, .inl (D.1 14, 8, .inr (.inr (.inr (.inr (va_up (va_up (va_up (va_up (va_up (va_up (va_up (fun _ => none) 0 (some q14)) 1 (some q16)) 2 (some q18)) 3 (some q20)) 4 (some q22)) 5 (some q24)) 6 (some q26))))))), (q2, .inr (6, [.ref q3, .int 0, .int 0, .int 0, .int 0])), (q3, .inl (D.1 11, 100, .inl (fun _ => 0))), (q4, .inr (7, [.ref q5, .int 0])), (q5, .inl (D.1 11, 16, .inl (fun _ => 0))), (q6, .inl (D.1 13, 2, .inr (.inr (.inr (.inr (fun _ => none)))))), (q7, .inl (D.1 11, 64, .inl (fun _ => 0))), (q8, .inl (D.1 11, 24, .inl (fun _ => 0))), (q9, .inl (D.1 11, 24, .inl (fun _ => 0))), (q10, .inl (D.1 11, 24, .inl (fun _ => 0))), (q11, .inr (2, [.int 0, .int 0, .int 0, .int 0, .ref q12, .ref q13])), (q12, .inl (D.1 11, 3, .inl (fun _ => 0))), (q13, .inl (D.1 15, 6, .inr (.inr (.inr (.inr (fun _ => none)))))), (q14, .inr (4, [.int (-1), .int 0, .ref q15])), (q15, .inl (D.1 11, 40, .inl (fun _ => 0))), (q16, .inr (4, [.int (-1), .int 0, .ref q17])), (q17, .inl (D.1 11, 40, .inl (fun _ => 0))), (q18, .inr (4, [.int (-1), .int 0, .ref q19])), (q19, .inl (D.1 11, 40, .inl (fun _ => 0))), (q20, .inr (4, [.int (-1), .int 0, .ref q21])), (q21, .inl (D.1 11, 40, .inl (fun _ => 0))), (q22, .inr (4, [.int (-1), .int 0, .ref q23])), (q23, .inl (D.1 11, 40, .inl (fun _ => 0))), (q24, .inr (4, [.int (-1), .int 0, .ref q25])), (q25, .inl (D.1 11, 40, .inl (fun _ => 0))), (q26, .inr (4, [.int (-1), .int 0, .ref q27])), (q27, .inl (D.1 11, 40, .inl (fun _ => 0))), (q28, .inr (4, [.int 0, .int 0, .null]))]) q28 (List.mem_append_right _ (List.mem_of_getElem? (i := 27) rfl)) (al_atK hnd (k := 28) (by rfl) (by rfl))) ⟨va_cnB 0 hts ggX11_init_X5_init rfl rfl rfl (X.2.1.2.1 (_, _, _) (List.mem_of_getElem? (i := 2) rfl)) (hts _ (List.mem_of_getElem? (i := 28) rfl)) hdX5_init ⟨Nat.le_of_ble_eq_true rfl, Nat.le_of_ble_eq_true rfl⟩, rfl, hts _ (List.mem_of_getElem? (i := 53) rfl)⟩ rfl hl.1 rfl (Nat.le_of_ble_eq_true rfl) dX11_init_123 ⟨(Nat.le_of_ble_eq_true rfl), (Nat.le_of_ble_eq_true rfl)⟩ (fun u H locs hp w => ?_)
                  obtain ⟨q29, hq29, rfl⟩ := hp
                  have w : hg_W D b0 (L ++ [q1, q2, q3, q4, q5, q6, q7, q8, q9, q10, q11, q12, q13, q14, q15, q16, q17, q18, q19, q20, q21, q22, q23, q24, q25, q26, q27, q28] ++ [q29]) (va_up (va_up (al_F f [(a, .inr (9, [.ref q1, .ref q2, .ref q4, .ref q6, .ref q7, .ref q8, .ref q9, .ref q10, .int (0), .ref q11, .int (0), .int (0)])), (q1, .inl (D.1 14, 8, .inr (.inr (.inr (.inr (va_up (va_up (va_up (va_up (va_up (va_up (va_up (fun _ => none) 0 (some q14)) 1 (some q16)) 2 (some q18)) 3 (some q20)) 4 (some q22)) 5 (some q24)) 6 (some q26))))))), (q2, .inr (6, [.ref q3, .int 0, .int 0, .int 0, .int 0])), (q3, .inl (D.1 11, 100, .inl (fun _ => 0))), (q4, .inr (7, [.ref q5, .int 0])), (q5, .inl (D.1 11, 16, .inl (fun _ => 0))), (q6, .inl (D.1 13, 2, .inr (.inr (.inr (.inr (fun _ => none)))))), (q7, .inl (D.1 11, 64, .inl (fun _ => 0))), (q8, .inl (D.1 11, 24, .inl (fun _ => 0))), (q9, .inl (D.1 11, 24, .inl (fun _ => 0))), (q10, .inl (D.1 11, 24, .inl (fun _ => 0))), (q11, .inr (2, [.int 0, .int 0, .int 0, .int 0, .ref q12, .ref q13])), (q12, .inl (D.1 11, 3, .inl (fun _ => 0))), (q13, .inl (D.1 15, 6, .inr (.inr (.inr (.inr (fun _ => none)))))), (q14, .inr (4, [.int (-1), .int 0, .ref q15])), (q15, .inl (D.1 11, 40, .inl (fun _ => 0))), (q16, .inr (4, [.int (-1), .int 0, .ref q17])), (q17, .inl (D.1 11, 40, .inl (fun _ => 0))), (q18, .inr (4, [.int (-1), .int 0, .ref q19])), (q19, .inl (D.1 11, 40, .inl (fun _ => 0))), (q20, .inr (4, [.int (-1), .int 0, .ref q21])), (q21, .inl (D.1 11, 40, .inl (fun _ => 0))), (q22, .inr (4, [.int (-1), .int 0, .ref q23])), (q23, .inl (D.1 11, 40, .inl (fun _ => 0))), (q24, .inr (4, [.int (-1), .int 0, .ref q25])), (q25, .inl (D.1 11, 40, .inl (fun _ => 0))), (q26, .inr (4, [.int (-1), .int 0, .ref q27])), (q27, .inl (D.1 11, 40, .inl (fun _ => 0))), (q28, .inr (4, [.int 0, .int 0, .null]))]) q28 (.inr (4, [.int (-1), .int 0, .ref q29]))) q29 (.inl (D.1 11, 40, .inl (fun _ => 0)))) s.heap H locs := w
                  rw [al_upK hnd (k := 28) (by rfl) (by rfl)] at w
                  have hnd0 := hnd
                  have w : hg_W D b0 (L ++ [q1, q2, q3, q4, q5, q6, q7, q8, q9, q10, q11, q12, q13, q14, q15, q16, q17, q18, q19, q20, q21, q22, q23, q24, q25, q26, q27, q28, q29]) (al_F f [(a, .inr (9, [.ref q1, .ref q2, .ref q4, .ref q6, .ref q7, .ref q8, .ref q9, .ref q10, .int (0), .ref q11, .int (0), .int (0)])), (q1, .inl (D.1 14, 8, .inr (.inr (.inr (.inr (va_up (va_up (va_up (va_up (va_up (va_up (va_up (fun _ => none) 0 (some q14)) 1 (some q16)) 2 (some q18)) 3 (some q20)) 4 (some q22)) 5 (some q24)) 6 (some q26))))))), (q2, .inr (6, [.ref q3, .int 0, .int 0, .int 0, .int 0])), (q3, .inl (D.1 11, 100, .inl (fun _ => 0))), (q4, .inr (7, [.ref q5, .int 0])), (q5, .inl (D.1 11, 16, .inl (fun _ => 0))), (q6, .inl (D.1 13, 2, .inr (.inr (.inr (.inr (fun _ => none)))))), (q7, .inl (D.1 11, 64, .inl (fun _ => 0))), (q8, .inl (D.1 11, 24, .inl (fun _ => 0))), (q9, .inl (D.1 11, 24, .inl (fun _ => 0))), (q10, .inl (D.1 11, 24, .inl (fun _ => 0))), (q11, .inr (2, [.int 0, .int 0, .int 0, .int 0, .ref q12, .ref q13])), (q12, .inl (D.1 11, 3, .inl (fun _ => 0))), (q13, .inl (D.1 15, 6, .inr (.inr (.inr (.inr (fun _ => none)))))), (q14, .inr (4, [.int (-1), .int 0, .ref q15])), (q15, .inl (D.1 11, 40, .inl (fun _ => 0))), (q16, .inr (4, [.int (-1), .int 0, .ref q17])), (q17, .inl (D.1 11, 40, .inl (fun _ => 0))), (q18, .inr (4, [.int (-1), .int 0, .ref q19])), (q19, .inl (D.1 11, 40, .inl (fun _ => 0))), (q20, .inr (4, [.int (-1), .int 0, .ref q21])), (q21, .inl (D.1 11, 40, .inl (fun _ => 0))), (q22, .inr (4, [.int (-1), .int 0, .ref q23])), (q23, .inl (D.1 11, 40, .inl (fun _ => 0))), (q24, .inr (4, [.int (-1), .int 0, .ref q25])), (q25, .inl (D.1 11, 40, .inl (fun _ => 0))), (q26, .inr (4, [.int (-1), .int 0, .ref q27])), (q27, .inl (D.1 11, 40, .inl (fun _ => 0))), (q28, .inr (4, [.int (-1), .int 0, .ref q29])), (q29, .inl (D.1 11, 40, .inl (fun _ => 0)))]) s.heap H locs := al_grow w (al_notin ha hq29)
                  have hnd : [a, q1, q2, q3, q4, q5, q6, q7, q8, q9, q10, q11, q12, q13, q14, q15, q16, q17, q18, q19, q20, q21, q22, q23, q24, q25, q26, q27, q28, q29].Nodup := al_nd hnd0 ha hq29
                  refine (show W p l e _ s m args below meth c H locs _ _ Q (F0 m 126 ls [.ref q28, .int (0 + 1 + 1 + 1 + 1 + 1 + 1 + 1), .ref q1]) from ?_)
                  refine hg_aast X w 3 rfl (List.mem_append_right _ (List.mem_of_getElem? (i := 0) rfl)) (al_atK hnd (k := 1) (by rfl) (by rfl)) (List.mem_append_right _ (List.mem_of_getElem? (i := 27) rfl)) (al_atK hnd (k := 28) (by rfl) (by rfl)) rfl (Or.inr rfl) 7 rfl (by decide) (by decide) dX11_init_126 (fun H locs w => ?_)
                  have w : hg_W D b0 (L ++ [q1, q2, q3, q4, q5, q6, q7, q8, q9, q10, q11, q12, q13, q14, q15, q16, q17, q18, q19, q20, q21, q22, q23, q24, q25, q26, q27, q28, q29]) (al_F f [(a, .inr (9, [.ref q1, .ref q2, .ref q4, .ref q6, .ref q7, .ref q8, .ref q9, .ref q10, .int (0), .ref q11, .int (0), .int (0)])), (q1, .inl (D.1 14, 8, .inr (.inr (.inr (.inr (va_up (va_up (va_up (va_up (va_up (va_up (va_up (va_up (fun _ => none) 0 (some q14)) 1 (some q16)) 2 (some q18)) 3 (some q20)) 4 (some q22)) 5 (some q24)) 6 (some q26)) 7 (some q28))))))), (q2, .inr (6, [.ref q3, .int 0, .int 0, .int 0, .int 0])), (q3, .inl (D.1 11, 100, .inl (fun _ => 0))), (q4, .inr (7, [.ref q5, .int 0])), (q5, .inl (D.1 11, 16, .inl (fun _ => 0))), (q6, .inl (D.1 13, 2, .inr (.inr (.inr (.inr (fun _ => none)))))), (q7, .inl (D.1 11, 64, .inl (fun _ => 0))), (q8, .inl (D.1 11, 24, .inl (fun _ => 0))), (q9, .inl (D.1 11, 24, .inl (fun _ => 0))), (q10, .inl (D.1 11, 24, .inl (fun _ => 0))), (q11, .inr (2, [.int 0, .int 0, .int 0, .int 0, .ref q12, .ref q13])), (q12, .inl (D.1 11, 3, .inl (fun _ => 0))), (q13, .inl (D.1 15, 6, .inr (.inr (.inr (.inr (fun _ => none)))))), (q14, .inr (4, [.int (-1), .int 0, .ref q15])), (q15, .inl (D.1 11, 40, .inl (fun _ => 0))), (q16, .inr (4, [.int (-1), .int 0, .ref q17])), (q17, .inl (D.1 11, 40, .inl (fun _ => 0))), (q18, .inr (4, [.int (-1), .int 0, .ref q19])), (q19, .inl (D.1 11, 40, .inl (fun _ => 0))), (q20, .inr (4, [.int (-1), .int 0, .ref q21])), (q21, .inl (D.1 11, 40, .inl (fun _ => 0))), (q22, .inr (4, [.int (-1), .int 0, .ref q23])), (q23, .inl (D.1 11, 40, .inl (fun _ => 0))), (q24, .inr (4, [.int (-1), .int 0, .ref q25])), (q25, .inl (D.1 11, 40, .inl (fun _ => 0))), (q26, .inr (4, [.int (-1), .int 0, .ref q27])), (q27, .inl (D.1 11, 40, .inl (fun _ => 0))), (q28, .inr (4, [.int (-1), .int 0, .ref q29])), (q29, .inl (D.1 11, 40, .inl (fun _ => 0)))]) s.heap H locs := al_chgK hnd (k := 1) w (by rfl) (by rfl)
                  refine lv_iinc (v := 0 + 1 + 1 + 1 + 1 + 1 + 1 + 1 + 1) (lv' := [(1, .int (0 + 1 + 1 + 1 + 1 + 1 + 1 + 1 + 1)), (0, .ref a)]) hx hb dX11_init_127 hl (k := 0) rfl rfl (by decide) rfl (fun ls hl => ?_)
                  refine lv_goto (tgt := 105) hx hb dX11_init_130 (by decide) ?_
                  refine lv_iload_n hx hb dX11_init_105 rfl (lv_at hl 0 rfl) ?_
                  refine lv_aload_n hx hb dX11_init_106 rfl (lv_at hl 1 rfl) ?_
                  refine hg_get (C := RX11) (T := TX11) (N := 12) (ci := 9) X w (List.mem_append_left _ ha) (al_atK hnd (k := 0) (by rfl) (by rfl)) hin11 rfl 0 (by decide) (List.mem_of_getElem? (i := 5) rfl) (Or.inl rfl) rfl dX11_init_107 ?_
                  refine hg_alenR X w 3 rfl (List.mem_append_right _ (List.mem_of_getElem? (i := 0) rfl)) (al_atK hnd (k := 1) (by rfl) (by rfl)) dX11_init_110 ?_
                  refine lv_icmp_ge (tgt := 133) hx hb dX11_init_111 (by decide) (fun c_111 => ?_) (fun c_111 => ?_)
                  · have hnd1 : (a :: [q1, q2, q3, q4, q5, q6, q7, q8, q9, q10, q11, q12, q13, q14, q15, q16, q17, q18, q19, q20, q21, q22, q23, q24, q25, q26, q27, q28, q29]).Nodup := hnd
                    have hlen : (a :: [q1, q2, q3, q4, q5, q6, q7, q8, q9, q10, q11, q12, q13, q14, q15, q16, q17, q18, q19, q20, q21, q22, q23, q24, q25, q26, q27, q28, q29]).length = 30 := rfl
                    have hm : mk_ok (L ++ [q1, q2, q3, q4, q5, q6, q7, q8, q9, q10, q11, q12, q13, q14, q15, q16, q17, q18, q19, q20, q21, q22, q23, q24, q25, q26, q27, q28, q29]) ((a :: [q1, q2, q3, q4, q5, q6, q7, q8, q9, q10, q11, q12, q13, q14, q15, q16, q17, q18, q19, q20, q21, q22, q23, q24, q25, q26, q27, q28, q29]).getD 11 0) (fun j => (a :: [q1, q2, q3, q4, q5, q6, q7, q8, q9, q10, q11, q12, q13, q14, q15, q16, q17, q18, q19, q20, q21, q22, q23, q24, q25, q26, q27, q28, q29]).getD (12 + j) 0) 0 := al_mk0 ha hnd1 hlen
                    have ho : ob_ok (L ++ [q1, q2, q3, q4, q5, q6, q7, q8, q9, q10, q11, q12, q13, q14, q15, q16, q17, q18, q19, q20, q21, q22, q23, q24, q25, q26, q27, q28, q29]) (fun k => (a :: [q1, q2, q3, q4, q5, q6, q7, q8, q9, q10, q11, q12, q13, q14, q15, q16, q17, q18, q19, q20, q21, q22, q23, q24, q25, q26, q27, q28, q29]).getD (ob_sg k) 0) ((a :: [q1, q2, q3, q4, q5, q6, q7, q8, q9, q10, q11, q12, q13, q14, q15, q16, q17, q18, q19, q20, q21, q22, q23, q24, q25, q26, q27, q28, q29]).getD 11 0) (fun j => (a :: [q1, q2, q3, q4, q5, q6, q7, q8, q9, q10, q11, q12, q13, q14, q15, q16, q17, q18, q19, q20, q21, q22, q23, q24, q25, q26, q27, q28, q29]).getD (12 + j) 0) 0 := al_ob0 ha hnd1 hlen
                    have hG : al_F f [(a, .inr (9, [.ref q1, .ref q2, .ref q4, .ref q6, .ref q7, .ref q8, .ref q9, .ref q10, .int (0), .ref q11, .int (0), .int (0)])), (q1, .inl (D.1 14, 8, .inr (.inr (.inr (.inr (va_up (va_up (va_up (va_up (va_up (va_up (va_up (va_up (fun _ => none) 0 (some q14)) 1 (some q16)) 2 (some q18)) 3 (some q20)) 4 (some q22)) 5 (some q24)) 6 (some q26)) 7 (some q28))))))), (q2, .inr (6, [.ref q3, .int 0, .int 0, .int 0, .int 0])), (q3, .inl (D.1 11, 100, .inl (fun _ => 0))), (q4, .inr (7, [.ref q5, .int 0])), (q5, .inl (D.1 11, 16, .inl (fun _ => 0))), (q6, .inl (D.1 13, 2, .inr (.inr (.inr (.inr (fun _ => none)))))), (q7, .inl (D.1 11, 64, .inl (fun _ => 0))), (q8, .inl (D.1 11, 24, .inl (fun _ => 0))), (q9, .inl (D.1 11, 24, .inl (fun _ => 0))), (q10, .inl (D.1 11, 24, .inl (fun _ => 0))), (q11, .inr (2, [.int 0, .int 0, .int 0, .int 0, .ref q12, .ref q13])), (q12, .inl (D.1 11, 3, .inl (fun _ => 0))), (q13, .inl (D.1 15, 6, .inr (.inr (.inr (.inr (fun _ => none)))))), (q14, .inr (4, [.int (-1), .int 0, .ref q15])), (q15, .inl (D.1 11, 40, .inl (fun _ => 0))), (q16, .inr (4, [.int (-1), .int 0, .ref q17])), (q17, .inl (D.1 11, 40, .inl (fun _ => 0))), (q18, .inr (4, [.int (-1), .int 0, .ref q19])), (q19, .inl (D.1 11, 40, .inl (fun _ => 0))), (q20, .inr (4, [.int (-1), .int 0, .ref q21])), (q21, .inl (D.1 11, 40, .inl (fun _ => 0))), (q22, .inr (4, [.int (-1), .int 0, .ref q23])), (q23, .inl (D.1 11, 40, .inl (fun _ => 0))), (q24, .inr (4, [.int (-1), .int 0, .ref q25])), (q25, .inl (D.1 11, 40, .inl (fun _ => 0))), (q26, .inr (4, [.int (-1), .int 0, .ref q27])), (q27, .inl (D.1 11, 40, .inl (fun _ => 0))), (q28, .inr (4, [.int (-1), .int 0, .ref q29])), (q29, .inl (D.1 11, 40, .inl (fun _ => 0)))] = ob_W D f (fun k => (a :: [q1, q2, q3, q4, q5, q6, q7, q8, q9, q10, q11, q12, q13, q14, q15, q16, q17, q18, q19, q20, q21, q22, q23, q24, q25, q26, q27, q28, q29]).getD (ob_sg k) 0) ob_C0 ((a :: [q1, q2, q3, q4, q5, q6, q7, q8, q9, q10, q11, q12, q13, q14, q15, q16, q17, q18, q19, q20, q21, q22, q23, q24, q25, q26, q27, q28, q29]).getD 11 0) (fun _ => none) ((a :: [q1, q2, q3, q4, q5, q6, q7, q8, q9, q10, q11, q12, q13, q14, q15, q16, q17, q18, q19, q20, q21, q22, q23, q24, q25, q26, q27, q28, q29]).getD 11 0) (fun j => (a :: [q1, q2, q3, q4, q5, q6, q7, q8, q9, q10, q11, q12, q13, q14, q15, q16, q17, q18, q19, q20, q21, q22, q23, q24, q25, q26, q27, q28, q29]).getD (12 + j) 0) 0 (mk_g0 0 0) := by
                      refine al_eq hnd (fun k b x hk => ?_) (fun b hb2 => ?_)
                      · match k, hk with
                        | 0, hk => cases hk; exact (ow_at ho (k := 0) (by decide))
                        | 1, hk => cases hk; exact (ow_at ho (k := 1) (by decide)).trans (congrArg (fun z => Sum.inl (D.1 14, 8, Sum.inr (Sum.inr (Sum.inr (Sum.inr z))))) (al_rr _).symm)
                        | 2, hk => cases hk; exact (ow_at ho (k := 2) (by decide))
                        | 3, hk => cases hk; exact (ow_at ho (k := 3) (by decide))
                        | 4, hk => cases hk; exact (ow_at ho (k := 4) (by decide))
                        | 5, hk => cases hk; exact (ow_at ho (k := 5) (by decide))
                        | 6, hk => cases hk; exact (ow_at ho (k := 6) (by decide))
                        | 7, hk => cases hk; exact (ow_at ho (k := 7) (by decide))
                        | 8, hk => cases hk; exact (ow_at ho (k := 8) (by decide))
                        | 9, hk => cases hk; exact (ow_at ho (k := 9) (by decide))
                        | 10, hk => cases hk; exact (ow_at ho (k := 10) (by decide))
                        | 11, hk => cases hk; exact mk_at0 D _ _ _ 0 (mk_g0 0 0)
                        | 12, hk => cases hk; exact (mk_atk hm D _ (mk_g0 0 0) (k := 0) (by decide)).trans (congrArg (fun z => Sum.inl (D.1 11, 3, Sum.inl z)) (mk_ta_g0 0 0))
                        | 13, hk => cases hk; exact (mk_atk hm D _ (mk_g0 0 0) (k := 1) (by decide)).trans (congrArg (fun z => Sum.inl (D.1 15, 6, Sum.inr (Sum.inr (Sum.inr (Sum.inr z))))) al_rr0)
                        | 14, hk => cases hk; exact (ow_at ho (k := 11) (by decide))
                        | 15, hk => cases hk; exact (ow_at ho (k := 19) (by decide)).trans (congrArg (fun z => Sum.inl (D.1 11, 40, Sum.inl z)) (al_it0 0))
                        | 16, hk => cases hk; exact (ow_at ho (k := 12) (by decide))
                        | 17, hk => cases hk; exact (ow_at ho (k := 20) (by decide)).trans (congrArg (fun z => Sum.inl (D.1 11, 40, Sum.inl z)) (al_it0 1))
                        | 18, hk => cases hk; exact (ow_at ho (k := 13) (by decide))
                        | 19, hk => cases hk; exact (ow_at ho (k := 21) (by decide)).trans (congrArg (fun z => Sum.inl (D.1 11, 40, Sum.inl z)) (al_it0 2))
                        | 20, hk => cases hk; exact (ow_at ho (k := 14) (by decide))
                        | 21, hk => cases hk; exact (ow_at ho (k := 22) (by decide)).trans (congrArg (fun z => Sum.inl (D.1 11, 40, Sum.inl z)) (al_it0 3))
                        | 22, hk => cases hk; exact (ow_at ho (k := 15) (by decide))
                        | 23, hk => cases hk; exact (ow_at ho (k := 23) (by decide)).trans (congrArg (fun z => Sum.inl (D.1 11, 40, Sum.inl z)) (al_it0 4))
                        | 24, hk => cases hk; exact (ow_at ho (k := 16) (by decide))
                        | 25, hk => cases hk; exact (ow_at ho (k := 24) (by decide)).trans (congrArg (fun z => Sum.inl (D.1 11, 40, Sum.inl z)) (al_it0 5))
                        | 26, hk => cases hk; exact (ow_at ho (k := 17) (by decide))
                        | 27, hk => cases hk; exact (ow_at ho (k := 25) (by decide)).trans (congrArg (fun z => Sum.inl (D.1 11, 40, Sum.inl z)) (al_it0 6))
                        | 28, hk => cases hk; exact (ow_at ho (k := 18) (by decide))
                        | 29, hk => cases hk; exact (ow_at ho (k := 26) (by decide)).trans (congrArg (fun z => Sum.inl (D.1 11, 40, Sum.inl z)) (al_it0 7))
                        | k + 30, hk => exact absurd hk (by simp)
                      · rw [ob_W, mk_out (fun z => hb2 (by rw [z]; exact al_gm0 (by show 11 < 30; decide))) (fun j hj z => hb2 (by rw [← z]; exact al_gm0 (by show 12 + j < 30; omega))), ob_out (fun k hk z => hb2 (by rw [← z]; exact al_gm0 (by show ob_sg k < 30; exact (ob_sg_b k hk).1)))]
                    have hfr : ∀ b ∈ [q1, q2, q3, q4, q5, q6, q7, q8, q9, q10, q11, q12, q13, q14, q15, q16, q17, q18, q19, q20, q21, q22, q23, q24, q25, q26, q27, q28, q29], b ∉ L := by
                      intro b hb2
                      simp only [List.mem_cons, List.not_mem_nil, or_false] at hb2
                      rcases hb2 with rfl | rfl | rfl | rfl | rfl | rfl | rfl | rfl | rfl | rfl | rfl | rfl | rfl | rfl | rfl | rfl | rfl | rfl | rfl | rfl | rfl | rfl | rfl | rfl | rfl | rfl | rfl | rfl | rfl
                      · exact fun z => hq1 (List.mem_append_left _ z)
                      · exact fun z => hq2 (List.mem_append_left _ z)
                      · exact fun z => hq3 (List.mem_append_left _ z)
                      · exact fun z => hq4 (List.mem_append_left _ z)
                      · exact fun z => hq5 (List.mem_append_left _ z)
                      · exact fun z => hq6 (List.mem_append_left _ z)
                      · exact fun z => hq7 (List.mem_append_left _ z)
                      · exact fun z => hq8 (List.mem_append_left _ z)
                      · exact fun z => hq9 (List.mem_append_left _ z)
                      · exact fun z => hq10 (List.mem_append_left _ z)
                      · exact fun z => hq11 (List.mem_append_left _ z)
                      · exact fun z => hq12 (List.mem_append_left _ z)
                      · exact fun z => hq13 (List.mem_append_left _ z)
                      · exact fun z => hq14 (List.mem_append_left _ z)
                      · exact fun z => hq15 (List.mem_append_left _ z)
                      · exact fun z => hq16 (List.mem_append_left _ z)
                      · exact fun z => hq17 (List.mem_append_left _ z)
                      · exact fun z => hq18 (List.mem_append_left _ z)
                      · exact fun z => hq19 (List.mem_append_left _ z)
                      · exact fun z => hq20 (List.mem_append_left _ z)
                      · exact fun z => hq21 (List.mem_append_left _ z)
                      · exact fun z => hq22 (List.mem_append_left _ z)
                      · exact fun z => hq23 (List.mem_append_left _ z)
                      · exact fun z => hq24 (List.mem_append_left _ z)
                      · exact fun z => hq25 (List.mem_append_left _ z)
                      · exact fun z => hq26 (List.mem_append_left _ z)
                      · exact fun z => hq27 (List.mem_append_left _ z)
                      · exact fun z => hq28 (List.mem_append_left _ z)
                      · exact fun z => hq29 (List.mem_append_left _ z)
                    rw [hG] at w
                    exact hend H locs (L ++ [q1, q2, q3, q4, q5, q6, q7, q8, q9, q10, q11, q12, q13, q14, q15, q16, q17, q18, q19, q20, q21, q22, q23, q24, q25, q26, q27, q28, q29], _) _ ls w ⟨[q1, q2, q3, q4, q5, q6, q7, q8, q9, q10, q11, q12, q13, q14, q15, q16, q17, q18, q19, q20, q21, q22, q23, q24, q25, q26, q27, q28, q29], hfr, hlen, hnd1, hm, ho, rfl⟩ dX11_init_133
                  · exact absurd c_111 (by decide)
set_option maxRecDepth 100000 in
set_option maxHeartbeats 4000000 in
theorem c_X12_layWays (l : Launch) (D : va_G) (b0 : Nat) (L : List Nat) (f : Nat → va_E) (mo : Nat) (ma : Nat → Nat) (M : Nat → Nat → Int32) (hm : mo_ok L mo ma) (n nr : Nat) (hv : hs_ok (M 0) n nr) (ho : ∀ i, i < n → M 0 (44 + i) = 0 ∨ M 0 (44 + i) = 1) : mo_Fv l yX12_layWays wsX12_layWays ({ frames := 6, cells := 0, slots := 0, locals := 138 }) D b0 L f mo ma M [] (sp_lay M n) := by
  refine hg_in_v (cc := cX12_layWays) (nL := 6) (by decide) rfl (Nat.le_of_ble_eq_true rfl) (fun p e s m args below meth c R Q X _ hR hend H locs ls w hl => ?_)
  subst hR
  obtain ⟨hx, hb, hml, hown, hts⟩ := id X.1
  have hin : ∀ w ∈ wsX120, w ∈ wsX12_layWays := fun w h => List.mem_cons_of_mem _ (List.mem_append_right _ h)
  have hl : lv_has ls 6 [(0, .ref mo)] := hl
  obtain ⟨hn, hn6, hnr, hnr3, htt⟩ := id hv
  refine lv_iconst (v := 0) hx hb dX12_layWays_0 (by decide) ?_
  refine lv_istore_n (lv' := [(1, .int (0)), (0, .ref mo)]) hx hb dX12_layWays_1 rfl hl (by decide) rfl (fun ls hl => ?_)
  refine lv_iconst (v := 0) hx hb dX12_layWays_2 (by decide) ?_
  refine lv_istore_n (lv' := [(2, .int (0)), (1, .int (0)), (0, .ref mo)]) hx hb dX12_layWays_3 rfl hl (by decide) rfl (fun ls hl => ?_)
  have loopA : ∀ (n0 k : Nat), k ≤ n → n + 1 ≤ k + n0 → ∀ (H : Heap) (locs : List Loc) (ls : Array Slot), hg_W D b0 L (mo_F D f mo ma M) s.heap H locs → lv_has ls 6 [(0, .ref mo), (1, .int (lw_had (M 0) k)), (2, .int (nI k))] → W p l e ({ frames := 6, cells := 0, slots := 0, locals := 138 }) s m args below meth c H locs 0 0 Q (F0 m 4 ls []) := by
    intro n0
    induction n0 with
    | zero =>
      intro k h1 h2
      exact absurd h2 (by omega)
    | succ n0 ih =>
      intro k hk hn0 H locs ls w hl
      refine lv_iload_n hx hb dX12_layWays_4 rfl (lv_at hl 2 rfl) ?_
      refine lv_aload_n hx hb dX12_layWays_5 rfl (lv_at hl 0 rfl) ?_
      refine mo_get X w hm hin 0 (by decide) (List.mem_of_getElem? (i := 1) rfl) rfl dX12_layWays_6 ?_
      refine lv_iconst (v := 3) hx hb dX12_layWays_9 (by decide) ?_
      refine mo_iald X w hm 0 (by decide) (by decide) 3 rfl (by show _ < 1400; omega) dX12_layWays_10 ?_
      refine lv_icmp_ge (tgt := 34) hx hb dX12_layWays_11 (by decide) (fun c_11 => ?_) (fun c_11 => ?_)
      · rw [hv.1] at c_11
        have hk : n = k := by
          rcases Nat.lt_or_ge k n with q | q
          · exact absurd c_11 (nI_ge (a := k) (b := n) q (by omega))
          · omega
        subst hk
        refine lv_iconst (v := 1) hx hb dX12_layWays_34 (by decide) ?_
        refine lv_aload_n hx hb dX12_layWays_35 rfl (lv_at hl 0 rfl) ?_
        refine mo_get X w hm hin 0 (by decide) (List.mem_of_getElem? (i := 1) rfl) rfl dX12_layWays_36 ?_
        refine lv_iconst (v := 3) hx hb dX12_layWays_39 (by decide) ?_
        refine mo_ialdv X w hm 0 (by decide) (by decide) 3 rfl (by show _ < 1400; decide) (nI n) hv.1 dX12_layWays_40 ?_
        refine lv_ishl hx hb dX12_layWays_41 ?_
        refine lv_iconst (v := 1) hx hb dX12_layWays_42 (by decide) ?_
        refine lv_isub hx hb dX12_layWays_43 ?_
        refine lv_istore_n (lv' := [(2, .int (((1 <<< (nI n &&& 31)) - 1))), (0, .ref mo), (1, .int (lw_had (M 0) n))]) hx hb dX12_layWays_44 rfl hl (by decide) rfl (fun ls hl => ?_)
        refine lv_iload_n hx hb dX12_layWays_45 rfl (lv_at hl 0 rfl) ?_
        refine lv_istore_n (lv' := [(3, .int (((1 <<< (nI n &&& 31)) - 1))), (2, .int (((1 <<< (nI n &&& 31)) - 1))), (0, .ref mo), (1, .int (lw_had (M 0) n))]) hx hb dX12_layWays_46 rfl hl (by decide) rfl (fun ls hl => ?_)
        obtain ⟨hd, hhd⟩ : ∃ hd, hd = (lw_hN (M 0) n) := ⟨_, rfl⟩
        obtain ⟨hh1, hh2⟩ := lw_had_n ho n (Nat.le_refl n) hn6
        rw [← hhd] at hh1 hh2
        have hl := hs_lv hl (k := 3) rfl hh1
        have hp64 : 2 ^ n ≤ 64 := Nat.le_trans (Nat.pow_le_pow_right (by decide) hn6) (by decide)
        have hp1 : 1 ≤ 2 ^ n := Nat.one_le_two_pow
        have loopB : ∀ (q : Nat), q ≤ 2 ^ n → ∀ (G o : Nat → Int32), lw_ag (M 0) G n → lw_fill (M 0) n hd o q = lw_fill (M 0) n hd (M 15) (2 ^ n) → ∀ (H : Heap) (locs : List Loc) (ls : Array Slot), hg_W D b0 L (mo_F D f mo ma (lw_M M G o)) s.heap H locs → lv_has ls 6 [(0, .ref mo), (1, .int (nI hd)), (2, .int (nI (2 ^ n - 1))), (3, .int (nI q - 1))] → W p l e ({ frames := 6, cells := 0, slots := 0, locals := 138 }) s m args below meth c H locs 0 0 Q (F0 m 47 ls []) := by
          intro q
          induction q with
          | zero =>
            intro hq G o hag hT H locs ls w hl
            have hT : o = lw_fill (M 0) n hd (M 15) (2 ^ n) := hT
            refine lv_iload_n hx hb dX12_layWays_47 rfl (lv_at hl 3 rfl) ?_
            refine lv_if_lt (tgt := 205) hx hb dX12_layWays_48 (by decide) (fun c_48 => ?_) (fun c_48 => ?_)
            · refine lv_iconst (v := 0) hx hb dX12_layWays_205 (by decide) ?_
              refine lv_istore_n (lv' := [(3, .int (0)), (0, .ref mo), (1, .int (nI hd)), (2, .int (nI (2 ^ n - 1)))]) hx hb dX12_layWays_206 rfl hl (by decide) rfl (fun ls hl => ?_)
              have loopE : ∀ (n0 k : Nat), k ≤ n → n + 1 ≤ k + n0 → ∀ (H : Heap) (locs : List Loc) (ls : Array Slot), hg_W D b0 L (mo_F D f mo ma (lw_M M (lw_off G (nI hd) k) o)) s.heap H locs → lv_has ls 6 [(0, .ref mo), (1, .int (nI hd)), (3, .int (nI k))] → W p l e ({ frames := 6, cells := 0, slots := 0, locals := 138 }) s m args below meth c H locs 0 0 Q (F0 m 207 ls []) := by
                intro n0
                induction n0 with
                | zero =>
                  intro k h1 h2
                  exact absurd h2 (by omega)
                | succ n0 ihE =>
                  intro k hk hn0 H locs ls w hl
                  have hkE := lw_ok_c (lw_ag_off (k := k) hag hk (nI hd)) hv
                  refine lv_iload_n hx hb dX12_layWays_207 rfl (lv_at hl 2 rfl) ?_
                  refine lv_aload_n hx hb dX12_layWays_208 rfl (lv_at hl 0 rfl) ?_
                  refine mo_get X w hm hin 0 (by decide) (List.mem_of_getElem? (i := 1) rfl) rfl dX12_layWays_209 ?_
                  refine lv_iconst (v := 3) hx hb dX12_layWays_212 (by decide) ?_
                  refine mo_ialdv X w hm 0 (by decide) (by decide) 3 rfl (by show _ < 1400; omega) ((lw_off G (nI hd) k) 3) rfl dX12_layWays_213 ?_
                  refine lv_icmp_ge (tgt := 237) hx hb dX12_layWays_214 (by decide) (fun c_214 => ?_) (fun c_214 => ?_)
                  · rw [hkE.1] at c_214
                    have hk : n = k := by
                      rcases Nat.lt_or_ge k n with q | q
                      · exact absurd c_214 (nI_ge (a := k) (b := n) q (by omega))
                      · omega
                    subst hk
                    refine lv_aload_n hx hb dX12_layWays_237 rfl (lv_at hl 0 rfl) ?_
                    refine lv_iload_n hx hb dX12_layWays_238 rfl (lv_at hl 1 rfl) ?_
                    refine mo_put X w hm hin 16 (by decide) (List.mem_of_getElem? (i := 3) rfl) dX12_layWays_239 (fun H locs w => ?_)
                    rw [show lw_off G (nI hd) n = M 0 from by rw [hhd]; exact lw_back hn6 hag ho, hT] at w
                    exact hend H locs (L, mo_F D f mo ma (sp_lay M n)) _ ls (by
                      have e : sp_lay M n = mo_w (lw_M M (M 0) (lw_fill (M 0) n hd (M 15) (2 ^ n))) 16 0 (nI hd) := by
                        unfold sp_lay lw_M
                        rw [hs_up_id, ← hhd]
                      rw [e]
                      exact w) rfl dX12_layWays_242
                  · rw [hkE.1] at c_214
                    have hkl : k < n := by
                      rcases Nat.lt_or_ge k n with q | q
                      · exact q
                      · exact absurd (nI_le (a := n) (b := k) q (by omega)) c_214
                    refine lv_aload_n hx hb dX12_layWays_217 rfl (lv_at hl 0 rfl) ?_
                    refine mo_get X w hm hin 0 (by decide) (List.mem_of_getElem? (i := 1) rfl) rfl dX12_layWays_218 ?_
                    refine lv_bipush (v := 44) hx hb dX12_layWays_221 (by decide) ?_
                    refine lv_iload_n hx hb dX12_layWays_223 rfl (lv_at hl 2 rfl) ?_
                    refine lv_iadd hx hb dX12_layWays_224 ?_
                    refine lv_iload_n hx hb dX12_layWays_225 rfl (lv_at hl 1 rfl) ?_
                    refine lv_iload_n hx hb dX12_layWays_226 rfl (lv_at hl 2 rfl) ?_
                    refine lv_ishr hx hb dX12_layWays_227 ?_
                    refine lv_iconst (v := 1) hx hb dX12_layWays_228 (by decide) ?_
                    refine lv_iand hx hb dX12_layWays_229 ?_
                    refine mo_iast X w hm 0 (by decide) (by decide) (44 + k) (hs_addI rfl rfl) (by show _ < 1400; omega) dX12_layWays_230 (fun H locs w => ?_)
                    rw [lw_w0] at w
                    refine lv_iinc (v := nI k + 1) (lv' := [(3, .int (nI k + 1)), (0, .ref mo), (1, .int (nI hd))]) hx hb dX12_layWays_231 hl (k := 2) rfl rfl (by decide) rfl (fun ls hl => ?_)
                    refine lv_goto (tgt := 207) hx hb dX12_layWays_234 (by decide) ?_
                    rw [lw_off_s] at w
                    have hl := hs_lv hl (k := 0) rfl (nI_1 k)
                    exact ihE (k + 1) (by omega) (by omega) H locs ls w (lv_sub hl [1, 2, 0] rfl)
              exact loopE (n + 1) 0 (by omega) (by omega) H locs ls (by rw [lw_off_0]; exact w) (lv_sub hl [1, 2, 0] rfl)
            · exact absurd (by decide) c_48
          | succ q ihB =>
            intro hq G o hag hT H locs ls w hl
            have hq64 : q < 64 := by omega
            have hl := hs_lv hl (k := 3) rfl (nI_pred q)
            have hl : lv_has ls 6 [(0, .ref mo), (1, .int (nI hd)), (2, .int (nI (2 ^ n - 1))), (3, .int (nI q))] := hl
            refine lv_iload_n hx hb dX12_layWays_47 rfl (lv_at hl 3 rfl) ?_
            refine lv_if_lt (tgt := 205) hx hb dX12_layWays_48 (by decide) (fun c_48 => ?_) (fun c_48 => ?_)
            · exact absurd c_48 (nI_pos (n := q) (by omega))
            · refine lv_aload_n hx hb dX12_layWays_51 rfl (lv_at hl 0 rfl) ?_
              refine mo_get X w hm hin 15 (by decide) (List.mem_of_getElem? (i := 2) rfl) rfl dX12_layWays_52 ?_
              refine lv_iload_n hx hb dX12_layWays_55 rfl (lv_at hl 3 rfl) ?_
              refine lv_iconst (v := 0) hx hb dX12_layWays_56 (by decide) ?_
              refine mo_iast X w hm 15 (by decide) (by decide) q rfl (by show _ < 64; omega) dX12_layWays_57 (fun H locs w => ?_)
              rw [lw_w15] at w
              refine lv_iload_n hx hb dX12_layWays_58 rfl (lv_at hl 3 rfl) ?_
              refine lv_iload_n hx hb dX12_layWays_59 rfl (lv_at hl 1 rfl) ?_
              refine lv_iand hx hb dX12_layWays_60 ?_
              refine lv_iload_n hx hb dX12_layWays_61 rfl (lv_at hl 1 rfl) ?_
              refine lv_icmp_ne (tgt := 199) hx hb dX12_layWays_62 (by decide) (fun c_62 => ?_) (fun c_62 => ?_)
              · refine lv_iinc (v := nI q + (-1)) (lv' := [(3, .int (nI q + (-1))), (0, .ref mo), (1, .int (nI hd)), (2, .int (nI (2 ^ n - 1)))]) hx hb dX12_layWays_199 hl (k := 3) rfl rfl (by decide) rfl (fun ls hl => ?_)
                refine lv_goto (tgt := 47) hx hb dX12_layWays_202 (by decide) ?_
                have eO : (va_up o q 0) = va_up o q (lw_val (M 0) n hd o q) := by
                  unfold lw_val
                  rw [if_neg c_62]
                  (try rw [bx_uu])
                  (try rw [bx_uu])
                  (try rw [va_up_self])
                rw [eO] at w
                have hl := hs_lv hl (k := 0) rfl (hs_m1 (nI q))
                exact ihB (by omega) G _ hag (by rw [lw_fill] at hT; exact hT) H locs ls w (lv_sub hl [1, 2, 3, 0] rfl)
              · refine lv_iconst (v := 0) hx hb dX12_layWays_65 (by decide) ?_
                refine lv_istore (lv' := [(4, .int (0)), (0, .ref mo), (1, .int (nI hd)), (2, .int (nI (2 ^ n - 1))), (3, .int (nI q))]) hx hb dX12_layWays_66 hl (by decide) rfl (fun ls hl => ?_)
                have loopC : ∀ (n0 k : Nat), k ≤ n → n + 1 ≤ k + n0 → ∀ (H : Heap) (locs : List Loc) (ls : Array Slot), hg_W D b0 L (mo_F D f mo ma (lw_M M (lw_off G (nI q) k) (va_up o q 0))) s.heap H locs → lv_has ls 6 [(0, .ref mo), (1, .int (nI hd)), (2, .int (nI (2 ^ n - 1))), (3, .int (nI q)), (4, .int (nI k))] → W p l e ({ frames := 6, cells := 0, slots := 0, locals := 138 }) s m args below meth c H locs 0 0 Q (F0 m 68 ls []) := by
                  intro n0
                  induction n0 with
                  | zero =>
                    intro k h1 h2
                    exact absurd h2 (by omega)
                  | succ n0 ihC =>
                    intro k hk hn0 H locs ls w hl
                    have hkC : hs_ok (lw_M M (lw_off G (nI q) k) (va_up o q 0) 0) n nr := lw_ok_c (lw_ag_off (k := k) hag hk (nI q)) hv
                    refine lv_iload hx hb dX12_layWays_68 (lv_at hl 4 rfl) ?_
                    refine lv_aload_n hx hb dX12_layWays_70 rfl (lv_at hl 0 rfl) ?_
                    refine mo_get X w hm hin 0 (by decide) (List.mem_of_getElem? (i := 1) rfl) rfl dX12_layWays_71 ?_
                    refine lv_iconst (v := 3) hx hb dX12_layWays_74 (by decide) ?_
                    refine mo_ialdv X w hm 0 (by decide) (by decide) 3 rfl (by show _ < 1400; omega) ((lw_off G (nI q) k) 3) rfl dX12_layWays_75 ?_
                    refine lv_icmp_ge (tgt := 101) hx hb dX12_layWays_76 (by decide) (fun c_76 => ?_) (fun c_76 => ?_)
                    · rw [(show lw_off G (nI q) k 3 = nI n from hkC.1)] at c_76
                      have hk : n = k := by
                        rcases Nat.lt_or_ge k n with q | q
                        · exact absurd c_76 (nI_ge (a := k) (b := n) q (by omega))
                        · omega
                      subst hk
                      refine lv_aload_n hx hb dX12_layWays_101 rfl (lv_at hl 0 rfl) ?_
                      refine hg_viF (r := (hs_drop (lw_off G (nI q) n) n n)) (As := []) (rest := []) X w (c_X12_dropping l D b0 L f mo ma (lw_M M (lw_off G (nI q) n) (va_up o q 0)) hm n nr hkC) (cwV 0 hts gX12_layWays_X12_dropping rfl rfl rfl hdX12_dropping ⟨Nat.le_of_ble_eq_true rfl, Nat.le_of_ble_eq_true rfl⟩) hm.1 (mo_at0 D f mo ma _) rfl rfl rfl hl.1 rfl (Nat.le_of_ble_eq_true rfl) dX12_layWays_102 ⟨Nat.zero_le _, Nat.zero_le _⟩ (fun H locs w => ?_)
                      refine lv_if_ne (tgt := 112) hx hb dX12_layWays_105 (by decide) (fun c_105 => ?_) (fun c_105 => ?_)
                      · refine lv_iconst (v := 0) hx hb dX12_layWays_112 (by decide) ?_
                        refine lv_istore (lv' := [(4, .int (0)), (0, .ref mo), (1, .int (nI hd)), (2, .int (nI (2 ^ n - 1))), (3, .int (nI q))]) hx hb dX12_layWays_113 hl (by decide) rfl (fun ls hl => ?_)
                        refine lv_iconst (v := 0) hx hb dX12_layWays_115 (by decide) ?_
                        refine lv_istore (lv' := [(5, .int (0)), (4, .int (0)), (0, .ref mo), (1, .int (nI hd)), (2, .int (nI (2 ^ n - 1))), (3, .int (nI q))]) hx hb dX12_layWays_116 hl (by decide) rfl (fun ls hl => ?_)
                        refine lv_iload hx hb dX12_layWays_118 (lv_at hl 0 rfl) ?_
                        refine lv_aload_n hx hb dX12_layWays_120 rfl (lv_at hl 2 rfl) ?_
                        refine mo_get X w hm hin 0 (by decide) (List.mem_of_getElem? (i := 1) rfl) rfl dX12_layWays_121 ?_
                        refine lv_iconst (v := 3) hx hb dX12_layWays_124 (by decide) ?_
                        refine mo_ialdv X w hm 0 (by decide) (by decide) 3 rfl (by show _ < 1400; omega) ((lw_off G (nI q) n) 3) rfl dX12_layWays_125 ?_
                        refine lv_icmp_ge (tgt := 173) hx hb dX12_layWays_126 (by decide) (fun c_126 => ?_) (fun c_126 => ?_)
                        · refine lv_aload_n hx hb dX12_layWays_173 rfl (lv_at hl 2 rfl) ?_
                          refine mo_get X w hm hin 15 (by decide) (List.mem_of_getElem? (i := 2) rfl) rfl dX12_layWays_174 ?_
                          refine lv_iload_n hx hb dX12_layWays_177 rfl (lv_at hl 5 rfl) ?_
                          refine lv_iload hx hb dX12_layWays_178 (lv_at hl 1 rfl) ?_
                          refine lv_if_eq (tgt := 192) hx hb dX12_layWays_180 (by decide) (fun c_180 => ?_) (fun c_180 => ?_)
                          · refine lv_aload_n hx hb dX12_layWays_192 rfl (lv_at hl 2 rfl) ?_
                            refine mo_get X w hm hin 15 (by decide) (List.mem_of_getElem? (i := 2) rfl) rfl dX12_layWays_193 ?_
                            refine lv_iload_n hx hb dX12_layWays_196 rfl (lv_at hl 5 rfl) ?_
                            refine mo_ialdv X w hm 15 (by decide) (by decide) q rfl (by show _ < 64; omega) ((va_up o q 0) q) rfl dX12_layWays_197 ?_
                            refine mo_iast X w hm 15 (by decide) (by decide) q rfl (by show _ < 64; omega) dX12_layWays_198 (fun H locs w => ?_)
                            rw [lw_w15] at w
                            refine lv_iinc (v := nI q + (-1)) (lv' := [(3, .int (nI q + (-1))), (5, .int (0)), (4, .int (0)), (0, .ref mo), (1, .int (nI hd)), (2, .int (nI (2 ^ n - 1)))]) hx hb dX12_layWays_199 hl (k := 5) rfl rfl (by decide) rfl (fun ls hl => ?_)
                            refine lv_goto (tgt := 47) hx hb dX12_layWays_202 (by decide) ?_
                            have eO : (va_up (va_up o q 0) q ((va_up o q 0) q)) = va_up o q (lw_val (M 0) n hd o q) := by
                              unfold lw_val
                              rw [if_pos c_62, if_neg (by rw [← lw_off_c hag]; exact c_105)]
                              (try rw [bx_uu])
                              (try rw [bx_uu])
                              (try rw [va_up_self])
                            rw [eO] at w
                            have hl := hs_lv hl (k := 0) rfl (hs_m1 (nI q))
                            exact ihB (by omega) (lw_off G (nI q) n) _ (lw_ag_off hag (Nat.le_refl n) _) (by rw [lw_fill] at hT; exact hT) H locs ls w (lv_sub hl [3, 4, 5, 0] rfl)
                          · exact absurd c_180 (by decide)
                        · refine lv_iload hx hb dX12_layWays_129 (lv_at hl 1 rfl) ?_
                          refine lv_if_eq (tgt := 173) hx hb dX12_layWays_131 (by decide) (fun c_131 => ?_) (fun c_131 => ?_)
                          · refine lv_aload_n hx hb dX12_layWays_173 rfl (lv_at hl 2 rfl) ?_
                            refine mo_get X w hm hin 15 (by decide) (List.mem_of_getElem? (i := 2) rfl) rfl dX12_layWays_174 ?_
                            refine lv_iload_n hx hb dX12_layWays_177 rfl (lv_at hl 5 rfl) ?_
                            refine lv_iload hx hb dX12_layWays_178 (lv_at hl 1 rfl) ?_
                            refine lv_if_eq (tgt := 192) hx hb dX12_layWays_180 (by decide) (fun c_180 => ?_) (fun c_180 => ?_)
                            · refine lv_aload_n hx hb dX12_layWays_192 rfl (lv_at hl 2 rfl) ?_
                              refine mo_get X w hm hin 15 (by decide) (List.mem_of_getElem? (i := 2) rfl) rfl dX12_layWays_193 ?_
                              refine lv_iload_n hx hb dX12_layWays_196 rfl (lv_at hl 5 rfl) ?_
                              refine mo_ialdv X w hm 15 (by decide) (by decide) q rfl (by show _ < 64; omega) ((va_up o q 0) q) rfl dX12_layWays_197 ?_
                              refine mo_iast X w hm 15 (by decide) (by decide) q rfl (by show _ < 64; omega) dX12_layWays_198 (fun H locs w => ?_)
                              rw [lw_w15] at w
                              refine lv_iinc (v := nI q + (-1)) (lv' := [(3, .int (nI q + (-1))), (5, .int (0)), (4, .int (0)), (0, .ref mo), (1, .int (nI hd)), (2, .int (nI (2 ^ n - 1)))]) hx hb dX12_layWays_199 hl (k := 5) rfl rfl (by decide) rfl (fun ls hl => ?_)
                              refine lv_goto (tgt := 47) hx hb dX12_layWays_202 (by decide) ?_
                              have eO : (va_up (va_up o q 0) q ((va_up o q 0) q)) = va_up o q (lw_val (M 0) n hd o q) := by
                                unfold lw_val
                                rw [if_pos c_62, if_neg (by rw [← lw_off_c hag]; exact c_105)]
                                (try rw [bx_uu])
                                (try rw [bx_uu])
                                (try rw [va_up_self])
                              rw [eO] at w
                              have hl := hs_lv hl (k := 0) rfl (hs_m1 (nI q))
                              exact ihB (by omega) (lw_off G (nI q) n) _ (lw_ag_off hag (Nat.le_refl n) _) (by rw [lw_fill] at hT; exact hT) H locs ls w (lv_sub hl [3, 4, 5, 0] rfl)
                            · exact absurd c_180 (by decide)
                          · exact absurd c_131 (by decide)
                      · refine lv_iconst (v := 1) hx hb dX12_layWays_108 (by decide) ?_
                        refine lv_goto (tgt := 113) hx hb dX12_layWays_109 (by decide) ?_
                        refine lv_istore (lv' := [(4, .int (1)), (0, .ref mo), (1, .int (nI hd)), (2, .int (nI (2 ^ n - 1))), (3, .int (nI q))]) hx hb dX12_layWays_113 hl (by decide) rfl (fun ls hl => ?_)
                        refine lv_iconst (v := 0) hx hb dX12_layWays_115 (by decide) ?_
                        refine lv_istore (lv' := [(5, .int (0)), (4, .int (1)), (0, .ref mo), (1, .int (nI hd)), (2, .int (nI (2 ^ n - 1))), (3, .int (nI q))]) hx hb dX12_layWays_116 hl (by decide) rfl (fun ls hl => ?_)
                        have loopD : ∀ (n0 k : Nat), k ≤ n → n + 1 ≤ k + n0 → ∀ (H : Heap) (locs : List Loc) (ls : Array Slot), hg_W D b0 L (mo_F D f mo ma (lw_M M (lw_off G (nI q) n) (va_up o q (lw_sum o q k)))) s.heap H locs → lv_has ls 6 [(0, .ref mo), (1, .int (nI hd)), (2, .int (nI (2 ^ n - 1))), (3, .int (nI q)), (4, .int (1)), (5, .int (nI k))] → W p l e ({ frames := 6, cells := 0, slots := 0, locals := 138 }) s m args below meth c H locs 0 0 Q (F0 m 118 ls []) := by
                          intro n0
                          induction n0 with
                          | zero =>
                            intro k h1 h2
                            exact absurd h2 (by omega)
                          | succ n0 ihD =>
                            intro k hk hn0 H locs ls w hl
                            refine lv_iload hx hb dX12_layWays_118 (lv_at hl 5 rfl) ?_
                            refine lv_aload_n hx hb dX12_layWays_120 rfl (lv_at hl 0 rfl) ?_
                            refine mo_get X w hm hin 0 (by decide) (List.mem_of_getElem? (i := 1) rfl) rfl dX12_layWays_121 ?_
                            refine lv_iconst (v := 3) hx hb dX12_layWays_124 (by decide) ?_
                            refine mo_ialdv X w hm 0 (by decide) (by decide) 3 rfl (by show _ < 1400; omega) ((lw_off G (nI q) n) 3) rfl dX12_layWays_125 ?_
                            refine lv_icmp_ge (tgt := 173) hx hb dX12_layWays_126 (by decide) (fun c_126 => ?_) (fun c_126 => ?_)
                            · rw [(show lw_off G (nI q) n 3 = nI n from hkC.1)] at c_126
                              have hk : n = k := by
                                rcases Nat.lt_or_ge k n with q | q
                                · exact absurd c_126 (nI_ge (a := k) (b := n) q (by omega))
                                · omega
                              subst hk
                              refine lv_aload_n hx hb dX12_layWays_173 rfl (lv_at hl 0 rfl) ?_
                              refine mo_get X w hm hin 15 (by decide) (List.mem_of_getElem? (i := 2) rfl) rfl dX12_layWays_174 ?_
                              refine lv_iload_n hx hb dX12_layWays_177 rfl (lv_at hl 3 rfl) ?_
                              refine lv_iload hx hb dX12_layWays_178 (lv_at hl 4 rfl) ?_
                              refine lv_if_eq (tgt := 192) hx hb dX12_layWays_180 (by decide) (fun c_180 => ?_) (fun c_180 => ?_)
                              · exact absurd c_180 (by decide)
                              · refine lv_iload_n hx hb dX12_layWays_183 rfl (lv_at hl 3 rfl) ?_
                                refine lv_iload_n hx hb dX12_layWays_184 rfl (lv_at hl 2 rfl) ?_
                                refine lv_icmp_ne (tgt := 192) hx hb dX12_layWays_185 (by decide) (fun c_185 => ?_) (fun c_185 => ?_)
                                · refine lv_aload_n hx hb dX12_layWays_192 rfl (lv_at hl 0 rfl) ?_
                                  refine mo_get X w hm hin 15 (by decide) (List.mem_of_getElem? (i := 2) rfl) rfl dX12_layWays_193 ?_
                                  refine lv_iload_n hx hb dX12_layWays_196 rfl (lv_at hl 3 rfl) ?_
                                  refine mo_ialdv X w hm 15 (by decide) (by decide) q rfl (by show _ < 64; omega) ((va_up o q (lw_sum o q n)) q) rfl dX12_layWays_197 ?_
                                  refine mo_iast X w hm 15 (by decide) (by decide) q rfl (by show _ < 64; omega) dX12_layWays_198 (fun H locs w => ?_)
                                  rw [lw_w15] at w
                                  refine lv_iinc (v := nI q + (-1)) (lv' := [(3, .int (nI q + (-1))), (0, .ref mo), (1, .int (nI hd)), (2, .int (nI (2 ^ n - 1))), (4, .int (1)), (5, .int (nI n))]) hx hb dX12_layWays_199 hl (k := 3) rfl rfl (by decide) rfl (fun ls hl => ?_)
                                  refine lv_goto (tgt := 47) hx hb dX12_layWays_202 (by decide) ?_
                                  have eO : (va_up (va_up o q (lw_sum o q n)) q ((va_up o q (lw_sum o q n)) q)) = va_up o q (lw_val (M 0) n hd o q) := by
                                    unfold lw_val
                                    rw [if_pos c_62, if_pos (by rw [← lw_off_c hag]; exact c_105), if_neg (fun z => c_185 (by rw [z]))]
                                    (try rw [bx_uu])
                                    (try rw [bx_uu])
                                    (try rw [va_up_self])
                                  rw [eO] at w
                                  have hl := hs_lv hl (k := 0) rfl (hs_m1 (nI q))
                                  exact ihB (by omega) (lw_off G (nI q) n) _ (lw_ag_off hag (Nat.le_refl n) _) (by rw [lw_fill] at hT; exact hT) H locs ls w (lv_sub hl [1, 2, 3, 0] rfl)
                                · refine lv_iconst (v := 1) hx hb dX12_layWays_188 (by decide) ?_
                                  refine lv_goto (tgt := 198) hx hb dX12_layWays_189 (by decide) ?_
                                  refine mo_iast X w hm 15 (by decide) (by decide) q rfl (by show _ < 64; omega) dX12_layWays_198 (fun H locs w => ?_)
                                  rw [lw_w15] at w
                                  refine lv_iinc (v := nI q + (-1)) (lv' := [(3, .int (nI q + (-1))), (0, .ref mo), (1, .int (nI hd)), (2, .int (nI (2 ^ n - 1))), (4, .int (1)), (5, .int (nI n))]) hx hb dX12_layWays_199 hl (k := 3) rfl rfl (by decide) rfl (fun ls hl => ?_)
                                  refine lv_goto (tgt := 47) hx hb dX12_layWays_202 (by decide) ?_
                                  have eO : (va_up (va_up o q (lw_sum o q n)) q 1) = va_up o q (lw_val (M 0) n hd o q) := by
                                    unfold lw_val
                                    rw [if_pos c_62, if_pos (by rw [← lw_off_c hag]; exact c_105), if_pos ((nI_eq (by omega) (by omega)).mp c_185)]
                                    (try rw [bx_uu])
                                    (try rw [bx_uu])
                                    (try rw [va_up_self])
                                  rw [eO] at w
                                  have hl := hs_lv hl (k := 0) rfl (hs_m1 (nI q))
                                  exact ihB (by omega) (lw_off G (nI q) n) _ (lw_ag_off hag (Nat.le_refl n) _) (by rw [lw_fill] at hT; exact hT) H locs ls w (lv_sub hl [1, 2, 3, 0] rfl)
                            · rw [(show lw_off G (nI q) n 3 = nI n from hkC.1)] at c_126
                              have hkl : k < n := by
                                rcases Nat.lt_or_ge k n with q | q
                                · exact q
                                · exact absurd (nI_le (a := n) (b := k) q (by omega)) c_126
                              refine lv_iload hx hb dX12_layWays_129 (lv_at hl 4 rfl) ?_
                              refine lv_if_eq (tgt := 173) hx hb dX12_layWays_131 (by decide) (fun c_131 => ?_) (fun c_131 => ?_)
                              · exact absurd c_131 (by decide)
                              · refine lv_aload_n hx hb dX12_layWays_134 rfl (lv_at hl 0 rfl) ?_
                                refine mo_get X w hm hin 15 (by decide) (List.mem_of_getElem? (i := 2) rfl) rfl dX12_layWays_135 ?_
                                refine lv_iload_n hx hb dX12_layWays_138 rfl (lv_at hl 3 rfl) ?_
                                refine lv_dup2_11 hx hb dX12_layWays_139 rfl rfl ?_
                                refine mo_ialdv X w hm 15 (by decide) (by decide) q rfl (by show _ < 64; omega) ((va_up o q (lw_sum o q k)) q) rfl dX12_layWays_140 ?_
                                refine lv_iload_n hx hb dX12_layWays_141 rfl (lv_at hl 3 rfl) ?_
                                refine lv_iload hx hb dX12_layWays_142 (lv_at hl 5 rfl) ?_
                                refine hg_siF (r := hs_has (nI q) (nI k)) (As := [.int (nI q), .int (nI k)]) (rest := [.int ((va_up o q (lw_sum o q k)) q), .int (nI q), .ref (ma 15)]) X w (c_X12_has l D b0 L _ (nI q) (nI k)) (va_cwS 2 hts gX12_layWays_X12_has rfl rfl rfl hdX12_has ⟨Nat.le_of_ble_eq_true rfl, Nat.le_of_ble_eq_true rfl⟩) rfl hl.1 rfl (Nat.le_of_ble_eq_true rfl) dX12_layWays_144 ⟨Nat.zero_le _, Nat.zero_le _⟩ (fun H locs w => ?_)
                                refine lv_if_eq (tgt := 154) hx hb dX12_layWays_147 (by decide) (fun c_147 => ?_) (fun c_147 => ?_)
                                · refine lv_aload_n hx hb dX12_layWays_154 rfl (lv_at hl 0 rfl) ?_
                                  refine mo_get X w hm hin 15 (by decide) (List.mem_of_getElem? (i := 2) rfl) rfl dX12_layWays_155 ?_
                                  refine lv_iload_n hx hb dX12_layWays_158 rfl (lv_at hl 3 rfl) ?_
                                  refine lv_iconst (v := 1) hx hb dX12_layWays_159 (by decide) ?_
                                  refine lv_iload hx hb dX12_layWays_160 (lv_at hl 5 rfl) ?_
                                  refine lv_ishl hx hb dX12_layWays_162 ?_
                                  refine lv_ior hx hb dX12_layWays_163 ?_
                                  refine mo_ialdv X w hm 15 (by decide) (by decide) ((q ||| 2 ^ k)) (lw_or q hq64 k (by omega)).1 (by show _ < 64; exact (lw_or q hq64 k (by omega)).2.1) ((va_up o q (lw_sum o q k)) ((q ||| 2 ^ k))) rfl dX12_layWays_164 ?_
                                  refine lv_iadd hx hb dX12_layWays_165 ?_
                                  refine mo_iast X w hm 15 (by decide) (by decide) q rfl (by show _ < 64; omega) dX12_layWays_166 (fun H locs w => ?_)
                                  rw [lw_w15] at w
                                  refine lv_iinc (v := nI k + 1) (lv' := [(5, .int (nI k + 1)), (0, .ref mo), (1, .int (nI hd)), (2, .int (nI (2 ^ n - 1))), (3, .int (nI q)), (4, .int (1))]) hx hb dX12_layWays_167 hl (k := 5) rfl rfl (by decide) rfl (fun ls hl => ?_)
                                  refine lv_goto (tgt := 118) hx hb dX12_layWays_170 (by decide) ?_
                                  have hbk : q.testBit k = false := by
                                    have := lw_hasN q hq64 k (by omega)
                                    rw [c_147] at this
                                    cases hb : q.testBit k with
                                    | false => rfl
                                    | true => rw [hb, if_pos rfl] at this; exact absurd this (by decide)
                                  have hne : q ||| 2 ^ k ≠ q := by have := (lw_or q hq64 k (by omega)).2.2.2 hbk; omega
                                  have eS : va_up (va_up o q (lw_sum o q k)) q ((va_up o q (lw_sum o q k)) q + (va_up o q (lw_sum o q k)) (q ||| 2 ^ k)) = va_up o q (lw_sum o q (k + 1)) := by
                                    rw [va_up_self, va_up_ne _ _ hne, bx_uu, lw_sum, if_neg (by rw [hbk]; decide)]
                                  rw [eS] at w
                                  have hl := hs_lv hl (k := 0) rfl (nI_1 k)
                                  exact ihD (k + 1) (by omega) (by omega) H locs ls w (lv_sub hl [1, 2, 3, 4, 5, 0] rfl)
                                · refine lv_iconst (v := 0) hx hb dX12_layWays_150 (by decide) ?_
                                  refine lv_goto (tgt := 165) hx hb dX12_layWays_151 (by decide) ?_
                                  refine lv_iadd hx hb dX12_layWays_165 ?_
                                  refine mo_iast X w hm 15 (by decide) (by decide) q rfl (by show _ < 64; omega) dX12_layWays_166 (fun H locs w => ?_)
                                  rw [lw_w15] at w
                                  refine lv_iinc (v := nI k + 1) (lv' := [(5, .int (nI k + 1)), (0, .ref mo), (1, .int (nI hd)), (2, .int (nI (2 ^ n - 1))), (3, .int (nI q)), (4, .int (1))]) hx hb dX12_layWays_167 hl (k := 5) rfl rfl (by decide) rfl (fun ls hl => ?_)
                                  refine lv_goto (tgt := 118) hx hb dX12_layWays_170 (by decide) ?_
                                  have hbk : q.testBit k = true := by
                                    have := lw_hasN q hq64 k (by omega)
                                    cases hb : q.testBit k with
                                    | true => rfl
                                    | false => rw [hb, if_neg (by decide)] at this; exact absurd this c_147
                                  have eS : va_up (va_up o q (lw_sum o q k)) q ((va_up o q (lw_sum o q k)) q + 0) = va_up o q (lw_sum o q (k + 1)) := by
                                    rw [va_up_self, bx_uu, lw_sum, if_pos hbk]
                                  rw [eS] at w
                                  have hl := hs_lv hl (k := 0) rfl (nI_1 k)
                                  exact ihD (k + 1) (by omega) (by omega) H locs ls w (lv_sub hl [1, 2, 3, 4, 5, 0] rfl)
                        exact loopD (n + 1) 0 (by omega) (by omega) H locs ls w (lv_sub hl [2, 3, 4, 5, 1, 0] rfl)
                    · rw [(show lw_off G (nI q) k 3 = nI n from hkC.1)] at c_76
                      have hkl : k < n := by
                        rcases Nat.lt_or_ge k n with q | q
                        · exact q
                        · exact absurd (nI_le (a := n) (b := k) q (by omega)) c_76
                      refine lv_aload_n hx hb dX12_layWays_79 rfl (lv_at hl 0 rfl) ?_
                      refine mo_get X w hm hin 0 (by decide) (List.mem_of_getElem? (i := 1) rfl) rfl dX12_layWays_80 ?_
                      refine lv_bipush (v := 44) hx hb dX12_layWays_83 (by decide) ?_
                      refine lv_iload hx hb dX12_layWays_85 (lv_at hl 4 rfl) ?_
                      refine lv_iadd hx hb dX12_layWays_87 ?_
                      refine lv_iload_n hx hb dX12_layWays_88 rfl (lv_at hl 3 rfl) ?_
                      refine lv_iload hx hb dX12_layWays_89 (lv_at hl 4 rfl) ?_
                      refine lv_ishr hx hb dX12_layWays_91 ?_
                      refine lv_iconst (v := 1) hx hb dX12_layWays_92 (by decide) ?_
                      refine lv_iand hx hb dX12_layWays_93 ?_
                      refine mo_iast X w hm 0 (by decide) (by decide) (44 + k) (hs_addI rfl rfl) (by show _ < 1400; omega) dX12_layWays_94 (fun H locs w => ?_)
                      rw [lw_w0] at w
                      refine lv_iinc (v := nI k + 1) (lv' := [(4, .int (nI k + 1)), (0, .ref mo), (1, .int (nI hd)), (2, .int (nI (2 ^ n - 1))), (3, .int (nI q))]) hx hb dX12_layWays_95 hl (k := 4) rfl rfl (by decide) rfl (fun ls hl => ?_)
                      refine lv_goto (tgt := 68) hx hb dX12_layWays_98 (by decide) ?_
                      rw [lw_off_s] at w
                      have hl := hs_lv hl (k := 0) rfl (nI_1 k)
                      exact ihC (k + 1) (by omega) (by omega) H locs ls w (lv_sub hl [1, 2, 3, 4, 0] rfl)
                exact loopC (n + 1) 0 (by omega) (by omega) H locs ls (by rw [lw_off_0]; exact w) (lv_sub hl [1, 2, 3, 4, 0] rfl)
        have hall := lw_all n (by omega)
        have hl := hs_lv hl (k := 1) rfl hall
        have hl := hs_lv hl (k := 0) rfl (hall.trans (show nI (2 ^ n - 1) = nI (2 ^ n) - 1 from by rw [show 2 ^ n = (2 ^ n - 1) + 1 by omega, nI_pred, Nat.add_sub_cancel]))
        exact loopB (2 ^ n) (Nat.le_refl _) (M 0) (M 15) (lw_ag_r _ _) rfl H locs ls (by rw [lw_M_r]; exact w) (lv_sub hl [2, 3, 1, 0] rfl)
      · rw [hv.1] at c_11
        have hkl : k < n := by
          rcases Nat.lt_or_ge k n with q | q
          · exact q
          · exact absurd (nI_le (a := n) (b := k) q (by omega)) c_11
        refine lv_iload_n hx hb dX12_layWays_14 rfl (lv_at hl 1 rfl) ?_
        refine lv_aload_n hx hb dX12_layWays_15 rfl (lv_at hl 0 rfl) ?_
        refine mo_get X w hm hin 0 (by decide) (List.mem_of_getElem? (i := 1) rfl) rfl dX12_layWays_16 ?_
        refine lv_bipush (v := 44) hx hb dX12_layWays_19 (by decide) ?_
        refine lv_iload_n hx hb dX12_layWays_21 rfl (lv_at hl 2 rfl) ?_
        refine lv_iadd hx hb dX12_layWays_22 ?_
        refine mo_iald X w hm 0 (by decide) (by decide) (44 + k) (hs_addI rfl rfl) (by show _ < 1400; omega) dX12_layWays_23 ?_
        refine lv_iload_n hx hb dX12_layWays_24 rfl (lv_at hl 2 rfl) ?_
        refine lv_ishl hx hb dX12_layWays_25 ?_
        refine lv_ior hx hb dX12_layWays_26 ?_
        refine lv_istore_n (lv' := [(1, .int ((lw_had (M 0) k ||| (M 0 (44 + k) <<< (nI k &&& 31))))), (0, .ref mo), (2, .int (nI k))]) hx hb dX12_layWays_27 rfl hl (by decide) rfl (fun ls hl => ?_)
        refine lv_iinc (v := nI k + 1) (lv' := [(2, .int (nI k + 1)), (1, .int ((lw_had (M 0) k ||| (M 0 (44 + k) <<< (nI k &&& 31))))), (0, .ref mo)]) hx hb dX12_layWays_28 hl (k := 2) rfl rfl (by decide) rfl (fun ls hl => ?_)
        refine lv_goto (tgt := 4) hx hb dX12_layWays_31 (by decide) ?_
        have hl := hs_lv hl (k := 0) rfl (nI_1 k)
        exact ih (k + 1) (by omega) (by omega) H locs ls w (lv_sub hl [2, 1, 0] rfl)
  exact loopA (n + 1) 0 (by omega) (by omega) H locs ls w (lv_sub hl [2, 1, 0] rfl)
theorem hdX12_layWays : yX12_layWays.cls = RX12 ∧ yX12_layWays.cls ≠ "java/lang/invoke/MethodHandle" ∧ yX12_layWays.cls ≠ "java/lang/invoke/VarHandle" ∧ (parseMethodDescriptor yX12_layWays.desc).map (fun d => d.parameters.length) = some 0 := by decide +kernel
set_option maxRecDepth 100000 in
set_option maxHeartbeats 4000000 in
theorem c_X12_unloaded (l : Launch) (D : va_G) (b0 : Nat) (L : List Nat) (f : Nat → va_E) (mo : Nat) (ma : Nat → Nat) (M : Nat → Nat → Int32) (hm : mo_ok L mo ma) (n nr : Nat) (hv : hs_ok (M 0) n nr) (ho : ∀ i, i < n → M 0 (44 + i) = 0 ∨ M 0 (44 + i) = 1) (k : Int32) : mo_Fi l yX12_unloaded wsX12_unloaded ({ frames := 7, cells := 0, slots := 0, locals := 163 }) D b0 L f mo ma M [.int (k)] ((sp_unl M n k).1) ((sp_unl M n k).2) := by
  refine hg_in_i (cc := cX12_unloaded) (nL := 6) (by decide) rfl (Nat.le_of_ble_eq_true rfl) (fun p e s m args below meth c R Q X hR hend H locs ls w hl => ?_)
  subst hR
  obtain ⟨hx, hb, hml, hown, hts⟩ := id X.1
  have hin : ∀ w ∈ wsX120, w ∈ wsX12_unloaded := fun w h => List.mem_cons_of_mem _ (List.mem_append_right _ h)
  have hl : lv_has ls 6 [(0, .ref mo), (1, .int (k))] := hl
  obtain ⟨hn, hn6, hnr, hnr3, htt⟩ := id hv
  refine lv_aload_n hx hb dX12_unloaded_0 rfl (lv_at hl 0 rfl) ?_
  refine mo_get X w hm hin 0 (by decide) (List.mem_of_getElem? (i := 1) rfl) rfl dX12_unloaded_1 ?_
  refine lv_iconst (v := 4) hx hb dX12_unloaded_4 (by decide) ?_
  refine mo_iald X w hm 0 (by decide) (by decide) 4 rfl (by show _ < 1400; omega) dX12_unloaded_5 ?_
  refine lv_if_ne (tgt := 12) hx hb dX12_unloaded_6 (by decide) (fun c_6 => ?_) (fun c_6 => ?_)
  · refine lv_iload_n hx hb dX12_unloaded_12 rfl (lv_at hl 1 rfl) ?_
    refine lv_i2l hx hb dX12_unloaded_13 rfl ?_
    refine lv_ldc2 (v := (-1)) hx hb hown (hts _ (List.mem_of_getElem? (i := 3) rfl)) dX12_unloaded_14 ?_
    refine lv_ldc2 (v := 5) hx hb hown (hts _ (List.mem_of_getElem? (i := 4) rfl)) dX12_unloaded_17 ?_
    refine hg_siF (r := hs_in k (-1) 5) (As := [.long ((k).toInt64), .long ((-1)), .long (5)]) (rest := []) X w (c_X12_in l D b0 L _ ((k).toInt64) (-1) 5 k (-1) 5 rfl (by decide) (by decide)) (va_cwS 3 hts gX12_unloaded_X12_in rfl rfl rfl hdX12_in ⟨Nat.le_of_ble_eq_true rfl, Nat.le_of_ble_eq_true rfl⟩) rfl hl.1 rfl (Nat.le_of_ble_eq_true rfl) dX12_unloaded_20 ⟨Nat.zero_le _, Nat.zero_le _⟩ (fun H locs w => ?_)
    refine lv_if_ne (tgt := 29) hx hb dX12_unloaded_23 (by decide) (fun c_23 => ?_) (fun c_23 => ?_)
    · refine lv_aload_n hx hb dX12_unloaded_29 rfl (lv_at hl 0 rfl) ?_
      refine hg_vvF (As := []) (rest := []) X w (c_X12_layWays l D b0 L f mo ma M hm n nr hv ho) (cwV 0 hts gX12_unloaded_X12_layWays rfl rfl rfl hdX12_layWays ⟨Nat.le_of_ble_eq_true rfl, Nat.le_of_ble_eq_true rfl⟩) hm.1 (mo_at0 D f mo ma _) rfl rfl rfl hl.1 rfl (Nat.le_of_ble_eq_true rfl) dX12_unloaded_30 ⟨Nat.zero_le _, Nat.zero_le _⟩ (fun H locs w => ?_)
      have hh64 : (lw_hN (M 0) n) < 64 := Nat.lt_of_lt_of_le (lw_had_n ho n (Nat.le_refl n) hn6).2 (Nat.le_trans (Nat.pow_le_pow_right (by decide) hn6) (by decide))
      refine lv_iload_n hx hb dX12_unloaded_33 rfl (lv_at hl 1 rfl) ?_
      refine lv_if_ge (tgt := 47) hx hb dX12_unloaded_34 (by decide) (fun c_34 => ?_) (fun c_34 => ?_)
      · have c_34 := Int32.not_lt.mpr c_34
        refine lv_aload_n hx hb dX12_unloaded_47 rfl (lv_at hl 0 rfl) ?_
        refine mo_get X w hm hin 15 (by decide) (List.mem_of_getElem? (i := 6) rfl) rfl dX12_unloaded_48 ?_
        refine lv_aload_n hx hb dX12_unloaded_51 rfl (lv_at hl 0 rfl) ?_
        refine mo_get (v := .int (nI (lw_hN (M 0) n))) X w hm hin 16 (by decide) (List.mem_of_getElem? (i := 7) rfl) rfl dX12_unloaded_52 ?_
        refine mo_ialdv X w hm 15 (by decide) (by decide) (lw_hN (M 0) n) rfl (by show _ < 64; exact hh64) ((lw_fill (M 0) n (lw_hN (M 0) n) (M 15) (2 ^ n)) (lw_hN (M 0) n)) rfl dX12_unloaded_55 ?_
        refine lv_if_ne (tgt := 62) hx hb dX12_unloaded_56 (by decide) (fun c_56 => ?_) (fun c_56 => ?_)
        · refine lv_aload_n hx hb dX12_unloaded_62 rfl (lv_at hl 0 rfl) ?_
          refine mo_get (v := .int (nI (lw_hN (M 0) n))) X w hm hin 16 (by decide) (List.mem_of_getElem? (i := 7) rfl) rfl dX12_unloaded_63 ?_
          refine lv_istore_n (lv' := [(2, .int (nI (lw_hN (M 0) n))), (0, .ref mo), (1, .int (k))]) hx hb dX12_unloaded_66 rfl hl (by decide) rfl (fun ls hl => ?_)
          refine lv_iconst (v := 0) hx hb dX12_unloaded_67 (by decide) ?_
          refine lv_istore_n (lv' := [(3, .int (0)), (2, .int (nI (lw_hN (M 0) n))), (0, .ref mo), (1, .int (k))]) hx hb dX12_unloaded_68 rfl hl (by decide) rfl (fun ls hl => ?_)
          obtain ⟨kk, hkk, rfl⟩ := lw_inm c_23 c_34
          have loop : ∀ (n0 j : Nat), j ≤ kk → kk + 1 ≤ j + n0 → ∀ (set : Nat), set < 64 → lw_go (lw_fill (M 0) n (lw_hN (M 0) n) (M 15) (2 ^ n)) n (kk - j) set = lw_go (lw_fill (M 0) n (lw_hN (M 0) n) (M 15) (2 ^ n)) n kk (lw_hN (M 0) n) → ∀ (H : Heap) (locs : List Loc) (ls : Array Slot), hg_W D b0 L (mo_F D f mo ma (sp_lay M n)) s.heap H locs → lv_has ls 6 [(0, .ref mo), (1, .int (nI kk)), (2, .int (nI set)), (3, .int (nI j))] → W p l e ({ frames := 7, cells := 0, slots := 0, locals := 163 }) s m args below meth c H locs 0 0 Q (F0 m 69 ls []) := by
            intro n0
            induction n0 with
            | zero =>
              intro j h1 h2
              exact absurd h2 (by omega)
            | succ n0 ih =>
              intro j hj hn0 set hs64 hG H locs ls w hl
              refine lv_iload_n hx hb dX12_unloaded_69 rfl (lv_at hl 3 rfl) ?_
              refine lv_iload_n hx hb dX12_unloaded_70 rfl (lv_at hl 1 rfl) ?_
              refine lv_icmp_gt (tgt := 159) hx hb dX12_unloaded_71 (by decide) (fun c_71 => ?_) (fun c_71 => ?_)
              · exact absurd c_71 (nI_nlt (a := kk) (b := j) hj (by omega))
              · refine lv_iconst (v := (-1)) hx hb dX12_unloaded_74 (by decide) ?_
                refine lv_istore (lv' := [(4, .int ((-1))), (0, .ref mo), (1, .int (nI kk)), (2, .int (nI set)), (3, .int (nI j))]) hx hb dX12_unloaded_75 hl (by decide) rfl (fun ls hl => ?_)
                refine lv_aload_n hx hb dX12_unloaded_77 rfl (lv_at hl 1 rfl) ?_
                refine mo_get X w hm hin 0 (by decide) (List.mem_of_getElem? (i := 1) rfl) rfl dX12_unloaded_78 ?_
                refine lv_iconst (v := 3) hx hb dX12_unloaded_81 (by decide) ?_
                refine mo_ialdv X w hm 0 (by decide) (by decide) 3 rfl (by show _ < 1400; decide) (nI n) hv.1 dX12_unloaded_82 ?_
                refine lv_iconst (v := 1) hx hb dX12_unloaded_83 (by decide) ?_
                refine lv_isub hx hb dX12_unloaded_84 ?_
                refine lv_istore (lv' := [(5, .int ((nI n - 1))), (4, .int ((-1))), (0, .ref mo), (1, .int (nI kk)), (2, .int (nI set)), (3, .int (nI j))]) hx hb dX12_unloaded_85 hl (by decide) rfl (fun ls hl => ?_)
                have loopI : ∀ (q : Nat), q ≤ n → ∀ (best : Int32), lw_nx (lw_fill (M 0) n (lw_hN (M 0) n) (M 15) (2 ^ n)) set best q = lw_nx (lw_fill (M 0) n (lw_hN (M 0) n) (M 15) (2 ^ n)) set (-1) n → ∀ (H : Heap) (locs : List Loc) (ls : Array Slot), hg_W D b0 L (mo_F D f mo ma (sp_lay M n)) s.heap H locs → lv_has ls 6 [(0, .ref mo), (1, .int (nI kk)), (2, .int (nI set)), (3, .int (nI j)), (4, .int (best)), (5, .int (nI q - 1))] → W p l e ({ frames := 7, cells := 0, slots := 0, locals := 163 }) s m args below meth c H locs 0 0 Q (F0 m 87 ls []) := by
                  intro q
                  induction q with
                  | zero =>
                    intro hq best hT H locs ls w hl
                    have hT : best = lw_nx (lw_fill (M 0) n (lw_hN (M 0) n) (M 15) (2 ^ n)) set (-1) n := hT
                    refine lv_iload hx hb dX12_unloaded_87 (lv_at hl 5 rfl) ?_
                    refine lv_if_lt (tgt := 130) hx hb dX12_unloaded_89 (by decide) (fun c_89 => ?_) (fun c_89 => ?_)
                    · refine lv_iload hx hb dX12_unloaded_130 (lv_at hl 4 rfl) ?_
                      refine lv_if_ge (tgt := 138) hx hb dX12_unloaded_132 (by decide) (fun c_132 => ?_) (fun c_132 => ?_)
                      · rw [hT] at c_132
                        have c_132 := Int32.not_lt.mpr c_132
                        obtain ⟨b, hbn, eb⟩ := lw_nx_p c_132
                        refine lv_iload_n hx hb dX12_unloaded_138 rfl (lv_at hl 3 rfl) ?_
                        refine lv_iload_n hx hb dX12_unloaded_139 rfl (lv_at hl 1 rfl) ?_
                        refine lv_icmp_ne (tgt := 146) hx hb dX12_unloaded_140 (by decide) (fun c_140 => ?_) (fun c_140 => ?_)
                        · have hjk : j < kk := by
                            rcases Nat.lt_or_ge j kk with z | z
                            · exact z
                            · exact absurd (by rw [show j = kk by omega]) c_140
                          refine lv_iload_n hx hb dX12_unloaded_146 rfl (lv_at hl 2 rfl) ?_
                          refine lv_iconst (v := 1) hx hb dX12_unloaded_147 (by decide) ?_
                          refine lv_iload hx hb dX12_unloaded_148 (lv_at hl 4 rfl) ?_
                          refine lv_ishl hx hb dX12_unloaded_150 ?_
                          refine lv_ior hx hb dX12_unloaded_151 ?_
                          refine lv_istore_n (lv' := [(2, .int ((nI set ||| (1 <<< (best &&& 31))))), (0, .ref mo), (1, .int (nI kk)), (3, .int (nI j)), (4, .int (best)), (5, .int (nI 0 - 1))]) hx hb dX12_unloaded_152 rfl hl (by decide) rfl (fun ls hl => ?_)
                          refine lv_iinc (v := nI j + 1) (lv' := [(3, .int (nI j + 1)), (2, .int ((nI set ||| (1 <<< (best &&& 31))))), (0, .ref mo), (1, .int (nI kk)), (4, .int (best)), (5, .int (nI 0 - 1))]) hx hb dX12_unloaded_153 hl (k := 3) rfl rfl (by decide) rfl (fun ls hl => ?_)
                          refine lv_goto (tgt := 69) hx hb dX12_unloaded_156 (by decide) ?_
                          have hl := hs_lv hl (k := 0) rfl (nI_1 j)
                          have eS : (nI set ||| (1 <<< (best &&& 31))) = nI (set ||| 2 ^ b) := by rw [hT, eb]; exact (lw_or set hs64 b (by omega)).1
                          have hl := hs_lv hl (k := 1) rfl eS
                          exact ih (j + 1) (by omega) (by omega) (set ||| 2 ^ b) (lw_or set hs64 b (by omega)).2.1 (by rw [← hG, show kk - j = (kk - (j + 1)) + 1 by omega, lw_go_s (by omega) c_132 eb]) H locs ls w (lv_sub hl [2, 3, 1, 0] rfl)
                        · have hjk : j = kk := (nI_eq (by omega) (by omega)).mp c_140
                          refine lv_iload hx hb dX12_unloaded_143 (lv_at hl 4 rfl) ?_
                          exact hend H locs (best) (L, mo_F D f mo ma (sp_lay M n)) _ ls w ⟨(by unfold sp_unl; rw [if_neg c_6, if_neg c_23]; rw [if_neg c_34, if_neg c_56, nI_clamp (show kk < 2 ^ 31 by omega), ← hG]; rw [show kk - j = 0 by omega, hT]; exact lw_go_0 c_132), (by unfold sp_unl; rw [if_neg c_6, if_neg c_23])⟩ rfl dX12_unloaded_145
                      · refine lv_ldc (v := (-1000000)) hx hb hown (hts _ (List.mem_of_getElem? (i := 8) rfl)) dX12_unloaded_135 ?_
                        exact hend H locs ((-1000000)) (L, mo_F D f mo ma (sp_lay M n)) _ ls w ⟨(by unfold sp_unl; rw [if_neg c_6, if_neg c_23]; rw [if_neg c_34, if_neg c_56, nI_clamp (show kk < 2 ^ 31 by omega), ← hG]; exact lw_go_n (by rw [← hT]; exact Int32.not_le.mp c_132)), (by unfold sp_unl; rw [if_neg c_6, if_neg c_23])⟩ rfl dX12_unloaded_137
                    · exact absurd (by decide) c_89
                  | succ q ihI =>
                    intro hq best hT H locs ls w hl
                    have hl := hs_lv hl (k := 5) rfl (nI_pred q)
                    have hl : lv_has ls 6 [(0, .ref mo), (1, .int (nI kk)), (2, .int (nI set)), (3, .int (nI j)), (4, .int (best)), (5, .int (nI q))] := hl
                    have hhas := lw_hasN set hs64 q (by omega)
                    refine lv_iload hx hb dX12_unloaded_87 (lv_at hl 5 rfl) ?_
                    refine lv_if_lt (tgt := 130) hx hb dX12_unloaded_89 (by decide) (fun c_89 => ?_) (fun c_89 => ?_)
                    · exact absurd c_89 (nI_pos (n := q) (by omega))
                    · refine lv_iload_n hx hb dX12_unloaded_92 rfl (lv_at hl 2 rfl) ?_
                      refine lv_iload hx hb dX12_unloaded_93 (lv_at hl 5 rfl) ?_
                      refine hg_siF (r := hs_has (nI set) (nI q)) (As := [.int (nI set), .int (nI q)]) (rest := []) X w (c_X12_has l D b0 L _ (nI set) (nI q)) (va_cwS 2 hts gX12_unloaded_X12_has rfl rfl rfl hdX12_has ⟨Nat.le_of_ble_eq_true rfl, Nat.le_of_ble_eq_true rfl⟩) rfl hl.1 rfl (Nat.le_of_ble_eq_true rfl) dX12_unloaded_95 ⟨Nat.zero_le _, Nat.zero_le _⟩ (fun H locs w => ?_)
                      refine lv_if_ne (tgt := 120) hx hb dX12_unloaded_98 (by decide) (fun c_98 => ?_) (fun c_98 => ?_)
                      · refine lv_iload hx hb dX12_unloaded_120 (lv_at hl 4 rfl) ?_
                        refine lv_istore (lv' := [(4, .int (best)), (0, .ref mo), (1, .int (nI kk)), (2, .int (nI set)), (3, .int (nI j)), (5, .int (nI q))]) hx hb dX12_unloaded_122 hl (by decide) rfl (fun ls hl => ?_)
                        refine lv_iinc (v := nI q + (-1)) (lv' := [(5, .int (nI q + (-1))), (4, .int (best)), (0, .ref mo), (1, .int (nI kk)), (2, .int (nI set)), (3, .int (nI j))]) hx hb dX12_unloaded_124 hl (k := 5) rfl rfl (by decide) rfl (fun ls hl => ?_)
                        refine lv_goto (tgt := 87) hx hb dX12_unloaded_127 (by decide) ?_
                        have hl := hs_lv hl (k := 0) rfl (hs_m1 (nI q))
                        exact ihI (by omega) best (by rw [lw_nx, if_neg (fun z => c_98 (by rw [hhas, z.1]; rfl))] at hT; exact hT) H locs ls w (lv_sub hl [2, 3, 4, 5, 1, 0] rfl)
                      · refine lv_aload_n hx hb dX12_unloaded_101 rfl (lv_at hl 0 rfl) ?_
                        refine mo_get X w hm hin 15 (by decide) (List.mem_of_getElem? (i := 6) rfl) rfl dX12_unloaded_102 ?_
                        refine lv_iload_n hx hb dX12_unloaded_105 rfl (lv_at hl 2 rfl) ?_
                        refine lv_iconst (v := 1) hx hb dX12_unloaded_106 (by decide) ?_
                        refine lv_iload hx hb dX12_unloaded_107 (lv_at hl 5 rfl) ?_
                        refine lv_ishl hx hb dX12_unloaded_109 ?_
                        refine lv_ior hx hb dX12_unloaded_110 ?_
                        refine mo_ialdv X w hm 15 (by decide) (by decide) (set ||| 2 ^ q) (lw_or set hs64 q (by omega)).1 (by show _ < 64; exact (lw_or set hs64 q (by omega)).2.1) ((lw_fill (M 0) n (lw_hN (M 0) n) (M 15) (2 ^ n)) (set ||| 2 ^ q)) rfl dX12_unloaded_111 ?_
                        refine lv_if_le (tgt := 120) hx hb dX12_unloaded_112 (by decide) (fun c_112 => ?_) (fun c_112 => ?_)
                        · refine lv_iload hx hb dX12_unloaded_120 (lv_at hl 4 rfl) ?_
                          refine lv_istore (lv' := [(4, .int (best)), (0, .ref mo), (1, .int (nI kk)), (2, .int (nI set)), (3, .int (nI j)), (5, .int (nI q))]) hx hb dX12_unloaded_122 hl (by decide) rfl (fun ls hl => ?_)
                          refine lv_iinc (v := nI q + (-1)) (lv' := [(5, .int (nI q + (-1))), (4, .int (best)), (0, .ref mo), (1, .int (nI kk)), (2, .int (nI set)), (3, .int (nI j))]) hx hb dX12_unloaded_124 hl (k := 5) rfl rfl (by decide) rfl (fun ls hl => ?_)
                          refine lv_goto (tgt := 87) hx hb dX12_unloaded_127 (by decide) ?_
                          have hl := hs_lv hl (k := 0) rfl (hs_m1 (nI q))
                          exact ihI (by omega) best (by rw [lw_nx, if_neg (fun z => absurd z.2 (Int32.not_lt.mpr c_112))] at hT; exact hT) H locs ls w (lv_sub hl [2, 3, 4, 5, 1, 0] rfl)
                        · refine lv_iload hx hb dX12_unloaded_115 (lv_at hl 5 rfl) ?_
                          refine lv_goto (tgt := 122) hx hb dX12_unloaded_117 (by decide) ?_
                          refine lv_istore (lv' := [(4, .int (nI q)), (0, .ref mo), (1, .int (nI kk)), (2, .int (nI set)), (3, .int (nI j)), (5, .int (nI q))]) hx hb dX12_unloaded_122 hl (by decide) rfl (fun ls hl => ?_)
                          refine lv_iinc (v := nI q + (-1)) (lv' := [(5, .int (nI q + (-1))), (4, .int (nI q)), (0, .ref mo), (1, .int (nI kk)), (2, .int (nI set)), (3, .int (nI j))]) hx hb dX12_unloaded_124 hl (k := 5) rfl rfl (by decide) rfl (fun ls hl => ?_)
                          refine lv_goto (tgt := 87) hx hb dX12_unloaded_127 (by decide) ?_
                          have hb0 : set.testBit q = false := by
                            cases hb : set.testBit q with
                            | false => rfl
                            | true => rw [hb, if_pos rfl] at hhas; rw [hhas] at c_98; exact absurd c_98 (by decide)
                          have hl := hs_lv hl (k := 0) rfl (hs_m1 (nI q))
                          exact ihI (by omega) (nI q) (by rw [lw_nx, if_pos ⟨hb0, Int32.not_le.mp c_112⟩] at hT; exact hT) H locs ls w (lv_sub hl [2, 3, 4, 5, 1, 0] rfl)
                exact loopI n (Nat.le_refl n) (-1) rfl H locs ls w (lv_sub hl [2, 3, 4, 5, 1, 0] rfl)
          exact loop (kk + 1) 0 (by omega) (by omega) (lw_hN (M 0) n) hh64 rfl H locs ls w (lv_sub hl [2, 3, 1, 0] rfl)
        · refine lv_ldc (v := (-1000000)) hx hb hown (hts _ (List.mem_of_getElem? (i := 8) rfl)) dX12_unloaded_59 ?_
          exact hend H locs ((-1000000)) (L, mo_F D f mo ma (sp_lay M n)) _ ls w ⟨(by unfold sp_unl; rw [if_neg c_6, if_neg c_23]; rw [if_neg c_34, if_pos c_56]), (by unfold sp_unl; rw [if_neg c_6, if_neg c_23])⟩ rfl dX12_unloaded_61
      · have c_34 := Int32.not_le.mp c_34
        refine lv_aload_n hx hb dX12_unloaded_37 rfl (lv_at hl 0 rfl) ?_
        refine mo_get X w hm hin 15 (by decide) (List.mem_of_getElem? (i := 6) rfl) rfl dX12_unloaded_38 ?_
        refine lv_aload_n hx hb dX12_unloaded_41 rfl (lv_at hl 0 rfl) ?_
        refine mo_get (v := .int (nI (lw_hN (M 0) n))) X w hm hin 16 (by decide) (List.mem_of_getElem? (i := 7) rfl) rfl dX12_unloaded_42 ?_
        refine mo_ialdv X w hm 15 (by decide) (by decide) (lw_hN (M 0) n) rfl (by show _ < 64; exact hh64) ((lw_fill (M 0) n (lw_hN (M 0) n) (M 15) (2 ^ n)) (lw_hN (M 0) n)) rfl dX12_unloaded_45 ?_
        exact hend H locs ((lw_fill (M 0) n (lw_hN (M 0) n) (M 15) (2 ^ n)) (lw_hN (M 0) n)) (L, mo_F D f mo ma (sp_lay M n)) _ ls w ⟨(by unfold sp_unl; rw [if_neg c_6, if_neg c_23]; rw [if_pos c_34]), (by unfold sp_unl; rw [if_neg c_6, if_neg c_23])⟩ rfl dX12_unloaded_46
    · refine lv_ldc (v := (-1000001)) hx hb hown (hts _ (List.mem_of_getElem? (i := 5) rfl)) dX12_unloaded_26 ?_
      exact hend H locs ((-1000001)) (L, mo_F D f mo ma M) _ ls w ⟨by rw [(show sp_unl M n k = (hs_BAD, M) from by unfold sp_unl; rw [if_neg c_6, if_pos c_23])], by rw [(show sp_unl M n k = (hs_BAD, M) from by unfold sp_unl; rw [if_neg c_6, if_pos c_23])]⟩ rfl dX12_unloaded_28
  · refine lv_ldc (v := (-1000002)) hx hb hown (hts _ (List.mem_of_getElem? (i := 2) rfl)) dX12_unloaded_9 ?_
    exact hend H locs ((-1000002)) (L, mo_F D f mo ma M) _ ls w ⟨by rw [(show sp_unl M n k = (hs_STATE, M) from if_pos c_6)], by rw [(show sp_unl M n k = (hs_STATE, M) from if_pos c_6)]⟩ rfl dX12_unloaded_11
