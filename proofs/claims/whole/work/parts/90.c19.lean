theorem hdX3_init : yX3_init.cls ≠ "java/lang/invoke/MethodHandle" ∧ yX3_init.cls ≠ "java/lang/invoke/VarHandle" ∧ (parseMethodDescriptor yX3_init.desc).map (fun d => d.parameters.length) = some 2 := by decide +kernel
set_option maxRecDepth 100000 in
set_option maxHeartbeats 4000000 in
theorem c_X3_twin (l : Launch) (D : va_G) (b0 : Nat) (L : List Nat) (f : Nat → va_E) (mk : Nat) (ad : Nat → Nat) (n : Nat) (g : Nat → Int32) (hm : mk_ok L mk ad n) (hs : mk_sr g n) : hg_Mq l yX3_twin wsX3_twin ({ frames := 6, cells := 9, slots := 57, locals := 113 }) D b0 L (mk_F D f mk ad n g) [.ref mk] (fun v u => ∃ mk2 ad2 N, v = some mk2 ∧ mk2 ∉ L ∧ (∀ j, j < n + 2 → ad2 j ∉ L) ∧ mk_ok (L ++ N) mk2 ad2 n ∧ u = (L ++ N, mk_F D (mk_F D f mk ad n g) mk2 ad2 n g)) 9 57 := by
  refine hg_in_q (cc := cX3_twin) (nL := 4) (by decide) rfl (Nat.le_of_ble_eq_true rfl) (fun p e s m args below meth c R Q X hR hend H locs ls w hl => ?_)
  subst hR
  obtain ⟨hx, hb, hml, hown, hts⟩ := id X.1
  have hin : mk_in wsX3_twin := ⟨fun w h => List.mem_cons_of_mem _ (List.mem_append_left _ (List.mem_append_left _ (List.mem_append_left _ (List.mem_append_left _ (List.mem_append_right _ h))))), fun w h => List.mem_cons_of_mem _ (List.mem_append_left _ (List.mem_append_left _ (List.mem_append_left _ (List.mem_append_right _ h)))), fun w h => List.mem_cons_of_mem _ (List.mem_append_left _ (List.mem_append_left _ (List.mem_append_right _ h))), fun w h => List.mem_cons_of_mem _ (List.mem_append_left _ (List.mem_append_right _ h)), fun w h => List.mem_cons_of_mem _ (List.mem_append_right _ h)⟩
  have hin3 : ∀ w ∈ wsX30, w ∈ wsX3_twin := fun w h => List.mem_cons_of_mem _ (List.mem_append_left _ (List.mem_append_left _ (List.mem_append_left _ (List.mem_append_left _ (List.mem_append_left _ (List.mem_append_right _ h))))))
  have hl : lv_has ls 4 [(0, .ref mk)] := hl
  refine hg_new X w (C := RX3) (T := TX3) (N := 6) (ci := 2) (ty0 := tyX3) hin3 tyX3_ok rfl (List.mem_of_getElem? (i := 1) rfl) (List.mem_of_getElem? (i := 2) rfl) (List.mem_of_getElem? (i := 3) rfl) (fs := [.int 0, .int 0, .int 0, .int 0, .null, .null]) (fun j hj => by match j, hj with | 0, _ | 1, _ | 2, _ | 3, _ | 4, _ | 5, _ => rfl) (Nat.le_of_ble_eq_true rfl) (Nat.le_of_ble_eq_true rfl) dX3_twin_0 (fun q0 H hq0 w => ?_)
  have hmq : mk ≠ q0 := fun z => hq0 (by rw [← z]; exact hm.1)
  refine lv_dup hx hb dX3_twin_3 rfl ?_
  refine lv_aload_n hx hb dX3_twin_4 rfl (lv_at hl 0 rfl) ?_
  refine hg_get (C := RX3) (T := TX3) (N := 6) (ci := 2) (fs := mk_fs ad g) X w (List.mem_append_left _ hm.1) ((va_up_ne _ _ hmq).trans (mk_at0 D f mk ad n g)) hin3 rfl 0 (by decide) (List.mem_of_getElem? (i := 4) rfl) (Or.inl rfl) rfl dX3_twin_5 ?_
  refine lv_aload_n hx hb dX3_twin_8 rfl (lv_at hl 0 rfl) ?_
  refine hg_get (C := RX3) (T := TX3) (N := 6) (ci := 2) (fs := mk_fs ad g) X w (List.mem_append_left _ hm.1) ((va_up_ne _ _ hmq).trans (mk_at0 D f mk ad n g)) hin3 rfl 1 (by decide) (List.mem_of_getElem? (i := 5) rfl) (Or.inl rfl) rfl dX3_twin_9 ?_
  refine hg_init (As := [.int (g 0), .int (g 1)]) (rest := [.ref q0]) X w (c_X3_init l D b0 (L ++ [q0]) (va_up (mk_F D f mk ad n g) q0 (.inr (2, [.int 0, .int 0, .int 0, .int 0, .null, .null]))) q0 (List.mem_append_right _ (List.mem_of_getElem? (i := 0) rfl)) (va_up_self _ _ _) (g 0) (g 1)) (cwI 2 hts ggX3_twin_X3_init rfl rfl rfl (hts _ (List.mem_of_getElem? (i := 3) rfl)) (hts _ (List.mem_of_getElem? (i := 14) rfl)) (hts _ (List.mem_of_getElem? (i := 15) rfl)) rfl hdX3_init ⟨Nat.le_of_ble_eq_true rfl, Nat.le_of_ble_eq_true rfl⟩) rfl hl.1 rfl (Nat.le_of_ble_eq_true rfl) dX3_twin_12 ⟨(Nat.le_of_ble_eq_true rfl), (Nat.le_of_ble_eq_true rfl)⟩ (fun u H locs hp w => ?_)
  obtain ⟨q1, q2, hq1, hq2, rfl⟩ := hp
  have hmo := mk_ok_0 (List.mem_append_right L (List.mem_of_getElem? (l := [q0]) (i := 0) rfl)) hq1 hq2
  have w : hg_W D b0 (L ++ [q0] ++ [q1, q2]) (mk_F D (mk_F D f mk ad n g) q0 (mk_a2 q1 q2) 0 (mk_g0 (g 0) (g 1))) s.heap H locs := by
    have e := mk_three (D := D) (f := mk_F D f mk ad n g) (g := mk_g0 (g 0) (g 1)) hmo (t := fun _ => 0) (mk_ta_g0 _ _).symm
    rw [← e]
    rw [bx_uu] at w
    exact w
  rw [List.append_assoc] at w hmo
  have w : hg_W D b0 (L ++ [q0, q1, q2]) (mk_F D (mk_F D f mk ad n g) q0 (mk_a2 q1 q2) 0 (mk_g0 (g 0) (g 1))) s.heap H locs := w
  have hmo : mk_ok (L ++ [q0, q1, q2]) q0 (mk_a2 q1 q2) 0 := hmo
  have hfr : ∀ j, j < 0 + 2 → mk_a2 q1 q2 j ∉ L := by
    intro j hj
    rcases (show j = 0 ∨ j = 1 by omega) with rfl | rfl
    · exact fun z => hq1 (List.mem_append_left _ z)
    · exact fun z => hq2 (List.mem_append_left _ (List.mem_append_left _ z))
  refine lv_astore_n (lv' := [(1, .ref q0), (0, .ref mk)]) hx hb dX3_twin_15 rfl hl (by decide) rfl (fun ls hl => ?_)
  refine lv_aload_n hx hb dX3_twin_16 rfl (lv_at hl 0 rfl) ?_
  refine lv_aload_n hx hb dX3_twin_17 rfl (lv_at hl 1 rfl) ?_
  refine hg_get (C := RX3) (T := TX3) (N := 6) (ci := 2) (fs := mk_fs ad g) X w (List.mem_append_left _ hm.1) (mk_H_over (g' := _) hm (mk_H_F hm) hq0 hfr).1 hin3 rfl 2 (by decide) (List.mem_of_getElem? (i := 6) rfl) (Or.inl rfl) rfl dX3_twin_18 ?_
  refine mk_putN X w hmo hin3 2 (by decide) (List.mem_of_getElem? (i := 6) rfl) dX3_twin_21 (fun H locs w => ?_)
  refine lv_aload_n hx hb dX3_twin_24 rfl (lv_at hl 0 rfl) ?_
  refine lv_aload_n hx hb dX3_twin_25 rfl (lv_at hl 1 rfl) ?_
  refine hg_get (C := RX3) (T := TX3) (N := 6) (ci := 2) (fs := mk_fs ad g) X w (List.mem_append_left _ hm.1) (mk_H_over (g' := _) hm (mk_H_F hm) hq0 hfr).1 hin3 rfl 3 (by decide) (List.mem_of_getElem? (i := 7) rfl) (Or.inl rfl) rfl dX3_twin_26 ?_
  refine mk_putN X w hmo hin3 3 (by decide) (List.mem_of_getElem? (i := 7) rfl) dX3_twin_29 (fun H locs w => ?_)
  refine lv_aload_n hx hb dX3_twin_32 rfl (lv_at hl 1 rfl) ?_
  refine hg_get (C := RX3) (T := TX3) (N := 6) (ci := 2) (fs := mk_fs ad g) X w (List.mem_append_left _ hm.1) (mk_H_over (g' := _) hm (mk_H_F hm) hq0 hfr).1 hin3 rfl 4 (by decide) (List.mem_of_getElem? (i := 8) rfl) (Or.inl rfl) rfl dX3_twin_33 ?_
  refine lv_iconst (v := 0) hx hb dX3_twin_36 (by decide) ?_
  refine lv_aload_n hx hb dX3_twin_37 rfl (lv_at hl 0 rfl) ?_
  refine mk_getM X w hmo hin3 4 (by decide) (List.mem_of_getElem? (i := 8) rfl) rfl dX3_twin_38 ?_
  refine lv_iconst (v := 0) hx hb dX3_twin_41 (by decide) ?_
  refine lv_iconst (v := 3) hx hb dX3_twin_42 (by decide) ?_
  refine hg_copyi X w (List.mem_append_left _ (hm.2.1 0 (by omega)).1) ((mk_H_over (g' := _) hm (mk_H_F hm) hq0 hfr).2 0 (by omega)) (hmo.2.1 0 (by omega)).1 (mk_atk hmo D _ _ (k := 0) (by omega)) 0 0 3 rfl rfl rfl (by decide) (by decide) (by decide) (by decide) (List.mem_of_getElem? (i := 9) rfl) (List.mem_of_getElem? (i := 10) rfl) (List.mem_of_getElem? (i := 11) rfl) (List.mem_of_getElem? (i := 12) rfl) hl.1 (Nat.le_of_ble_eq_true rfl) (Nat.le_of_ble_eq_true rfl) dX3_twin_43 (fun H locs w => ?_)
  rw [mk_tw (G := va_up (va_up (mk_g0 (g 0) (g 1)) 2 (g 2)) 3 (g 3)) (g := g) hmo rfl rfl rfl rfl] at w
  refine lv_iconst (v := 0) hx hb dX3_twin_46 (by decide) ?_
  refine lv_istore_n (lv' := [(2, .int (0)), (1, .ref q0), (0, .ref mk)]) hx hb dX3_twin_47 rfl hl (by decide) rfl (fun ls hl => ?_)
  have loop : ∀ (n0 k : Nat), k ≤ 6 → 6 + 1 ≤ k + n0 → ∀ (N : List Nat) (ad2 : Nat → Nat), mk_ok (L ++ N) q0 ad2 (min k n) → (∀ j, j < min k n + 2 → ad2 j ∉ L) → ∀ (H : Heap) (locs : List Loc) (ls : Array Slot), hg_W D b0 (L ++ N) (mk_F D (mk_F D f mk ad n g) q0 ad2 (min k n) g) s.heap H locs → lv_has ls 4 [(0, .ref mk), (1, .ref q0), (2, .int (nI k))] → W p l e ({ frames := 6, cells := 9, slots := 57, locals := 113 }) s m args below meth c H locs (3 + k) (15 + 7 * k) Q (F0 m 48 ls []) := by
    intro n0
    induction n0 with
    | zero =>
      intro k h1 h2
      exact absurd h2 (by omega)
    | succ n0 ih =>
      intro k hk hn0 N ad2 hmo hfr H locs ls w hl
      have hH := mk_H_over (F := mk_F D f mk ad n g) (g' := g) hm (mk_H_F (D := D) (f := f) (g := g) hm) hq0 hfr
      have hmL := mk_ok_mono (N := N) hm
      refine lv_iload_n hx hb dX3_twin_48 rfl (lv_at hl 2 rfl) ?_
      refine lv_bipush (v := 6) hx hb dX3_twin_49 (by decide) ?_
      refine lv_icmp_ge (tgt := 81) hx hb dX3_twin_51 (by decide) (fun c_51 => ?_) (fun c_51 => ?_)
      · have hk : 6 = k := by
          rcases Nat.lt_or_ge k 6 with q | q
          · exact absurd c_51 (nI_ge (a := k) (b := 6) q (by omega))
          · omega
        subst hk
        refine lv_aload_n hx hb dX3_twin_81 rfl (lv_at hl 1 rfl) ?_
        have hmin : min 6 n = n := by
          have := hs.2.1
          omega
        rw [hmin] at w hmo hfr
        exact hend H locs (some q0) (L ++ N, mk_F D (mk_F D f mk ad n g) q0 ad2 n g) _ ls w ⟨q0, ad2, N, rfl, hq0, hfr, hmo, rfl⟩ dX3_twin_82
      · have hkl : k < 6 := by
          rcases Nat.lt_or_ge k 6 with q | q
          · exact q
          · exact absurd (nI_le (a := 6) (b := k) q (by omega)) c_51
        refine lv_aload_n hx hb dX3_twin_54 rfl (lv_at hl 0 rfl) ?_
        refine hg_get (C := RX3) (T := TX3) (N := 6) (ci := 2) (fs := mk_fs ad g) X w (List.mem_append_left _ hm.1) hH.1 hin3 rfl 5 (by decide) (List.mem_of_getElem? (i := 13) rfl) (Or.inl rfl) rfl dX3_twin_55 ?_
        refine lv_iload_n hx hb dX3_twin_58 rfl (lv_at hl 2 rfl) ?_
        rw [← mk_self hH] at w
        refine mk_ald X w hmL k rfl (by omega) dX3_twin_59 (fun hjk => ?_) (fun hjk => ?_)
        · have hmin : min k n = k := by omega
          rw [mk_self hH, hmin] at w
          rw [hmin] at hmo hfr hH
          refine lv_astore_n (lv' := [(3, .ref (ad (2 + k))), (0, .ref mk), (1, .ref q0), (2, .int (nI k))]) hx hb dX3_twin_60 rfl hl (by decide) rfl (fun ls hl => ?_)
          refine lv_aload_n hx hb dX3_twin_61 rfl (lv_at hl 0 rfl) ?_
          refine lv_ifnull hx hb dX3_twin_62 ?_
          refine lv_aload_n hx hb dX3_twin_65 rfl (lv_at hl 2 rfl) ?_
          refine mk_getM X w hmo hin3 5 (by decide) (List.mem_of_getElem? (i := 13) rfl) rfl dX3_twin_66 ?_
          refine lv_iload_n hx hb dX3_twin_69 rfl (lv_at hl 3 rfl) ?_
          refine lv_aload_n hx hb dX3_twin_70 rfl (lv_at hl 0 rfl) ?_
          rw [← mk_self hH] at w
          refine hg_backq (mc := 1) (ms := 7) (rest := [.int (nI k), .ref (ad2 1)]) (post := fun v u => ∃ q, v = some q ∧ q ∉ L ++ N ∧ u = (L ++ N ++ [q], va_up (mk_F D (mk_F D (mk_F D f mk ad n g) q0 ad2 k g) mk ad n g) q (.inr (mk_kc (g (8 + k)), mk_st g k)))) w (by
            rcases hs.2.2.1 k hjk with hk0 | hk0 | hk0 | hk0 | hk0
            · exact mk_runUq (As := []) (C := RX7) (ci := 5) (fs := mk_st g k) X w (c_X6_twin l D b0 (L ++ N) (mk_F D (mk_F D f mk ad n g) q0 ad2 k g) mk ad n g hmL hs k hjk) (va_cwU 0 hts gX3_twin_X6_twin_u55X7 rfl rfl rfl rfl (by decide +kernel) ⟨Nat.le_of_ble_eq_true rfl, Nat.le_of_ble_eq_true rfl⟩) (hmL.2.1 (2 + k) (by omega)).1 (by rw [mk_atS hmL hjk, hk0]; rfl) rfl rfl rfl hl.1 rfl (Nat.le_of_ble_eq_true rfl) dX3_twin_71 ⟨by show 3 + k + 1 ≤ 9; omega, by show 15 + 7 * k + 7 ≤ 57; omega⟩
            · exact mk_runUq (As := []) (C := RX2) (ci := 1) (fs := mk_st g k) X w (c_X6_twin l D b0 (L ++ N) (mk_F D (mk_F D f mk ad n g) q0 ad2 k g) mk ad n g hmL hs k hjk) (va_cwU 0 hts gX3_twin_X6_twin_u55X2 rfl rfl rfl rfl (by decide +kernel) ⟨Nat.le_of_ble_eq_true rfl, Nat.le_of_ble_eq_true rfl⟩) (hmL.2.1 (2 + k) (by omega)).1 (by rw [mk_atS hmL hjk, hk0]; rfl) rfl rfl rfl hl.1 rfl (Nat.le_of_ble_eq_true rfl) dX3_twin_71 ⟨by show 3 + k + 1 ≤ 9; omega, by show 15 + 7 * k + 7 ≤ 57; omega⟩
            · exact mk_runUq (As := []) (C := RX0) (ci := 0) (fs := mk_st g k) X w (c_X6_twin l D b0 (L ++ N) (mk_F D (mk_F D f mk ad n g) q0 ad2 k g) mk ad n g hmL hs k hjk) (va_cwU 0 hts gX3_twin_X6_twin_u55X0 rfl rfl rfl rfl (by decide +kernel) ⟨Nat.le_of_ble_eq_true rfl, Nat.le_of_ble_eq_true rfl⟩) (hmL.2.1 (2 + k) (by omega)).1 (by rw [mk_atS hmL hjk, hk0]; rfl) rfl rfl rfl hl.1 rfl (Nat.le_of_ble_eq_true rfl) dX3_twin_71 ⟨by show 3 + k + 1 ≤ 9; omega, by show 15 + 7 * k + 7 ≤ 57; omega⟩
            · exact mk_runUq (As := []) (C := RX4) (ci := 3) (fs := mk_st g k) X w (c_X6_twin l D b0 (L ++ N) (mk_F D (mk_F D f mk ad n g) q0 ad2 k g) mk ad n g hmL hs k hjk) (va_cwU 0 hts gX3_twin_X6_twin_u55X4 rfl rfl rfl rfl (by decide +kernel) ⟨Nat.le_of_ble_eq_true rfl, Nat.le_of_ble_eq_true rfl⟩) (hmL.2.1 (2 + k) (by omega)).1 (by rw [mk_atS hmL hjk, hk0]; rfl) rfl rfl rfl hl.1 rfl (Nat.le_of_ble_eq_true rfl) dX3_twin_71 ⟨by show 3 + k + 1 ≤ 9; omega, by show 15 + 7 * k + 7 ≤ 57; omega⟩
            · exact mk_runUq (As := []) (C := RX10) (ci := 8) (fs := mk_st g k) X w (c_X6_twin l D b0 (L ++ N) (mk_F D (mk_F D f mk ad n g) q0 ad2 k g) mk ad n g hmL hs k hjk) (va_cwU 0 hts gX3_twin_X6_twin_u55X10 rfl rfl rfl rfl (by decide +kernel) ⟨Nat.le_of_ble_eq_true rfl, Nat.le_of_ble_eq_true rfl⟩) (hmL.2.1 (2 + k) (by omega)).1 (by rw [mk_atS hmL hjk, hk0]; rfl) rfl rfl rfl hl.1 rfl (Nat.le_of_ble_eq_true rfl) dX3_twin_71 ⟨by show 3 + k + 1 ≤ 9; omega, by show 15 + 7 * k + 7 ≤ 57; omega⟩) (fun v0 u0 H locs hp w => ?_)
          obtain ⟨q, rfl, hq, rfl⟩ := hp
          have w : hg_W D b0 (L ++ N ++ [q]) (va_up (mk_F D (mk_F D (mk_F D f mk ad n g) q0 ad2 k g) mk ad n g) q (.inr (mk_kc (g (8 + k)), mk_st g k))) s.heap H locs := w
          rw [mk_self hH] at w
          refine (show W p l e _ s m args below meth c H locs _ _ Q (F0 m 74 ls (.ref q :: [.int (nI k), .ref (ad2 1)])) from ?_)
          obtain ⟨r0, hr0, hcs⟩ := al_cast X.2.1 (al_kc5 (g (8 + k)))
          have h1q : ad2 1 ≠ q := fun z => hq (by rw [← z]; exact (hmo.2.1 1 (by omega)).1)
          refine hg_aast X w 4 rfl (List.mem_append_left _ (hmo.2.1 1 (by omega)).1) ((va_up_ne _ _ h1q).trans (mk_atk hmo D _ g (k := 1) (by omega))) (List.mem_append_right _ (List.mem_of_getElem? (i := 0) rfl)) (va_up_self _ _ _) hr0 (Or.inl hcs) k rfl (by omega) (by decide) dX3_twin_74 (fun H locs w => ?_)
          rw [mk_grow hmo hq, List.append_assoc] at w
          refine lv_iinc (v := nI k + 1) (lv' := [(2, .int (nI k + 1)), (3, .ref (ad (2 + k))), (0, .ref mk), (1, .ref q0)]) hx hb dX3_twin_75 hl (k := 3) rfl rfl (by decide) rfl (fun ls hl => ?_)
          refine lv_goto (tgt := 48) hx hb dX3_twin_78 (by decide) ?_
          have hl := hs_lv hl (k := 0) rfl (nI_1 k)
          exact ih (k + 1) (by omega) (by omega) (N ++ [q]) (va_up ad2 (2 + k) q) (by rw [show min (k + 1) n = k + 1 by omega, ← List.append_assoc]; exact mk_ok_grow hmo hq) (by
            intro j hj
            by_cases e : j = 2 + k
            · subst e
              rw [va_up_self]
              exact fun z => hq (List.mem_append_left _ z)
            · rw [va_up_ne _ _ e]
              exact hfr j (by omega)) H locs ls (by rw [show min (k + 1) n = k + 1 by omega]; exact w) (lv_sub hl [2, 3, 0] rfl)
        · rw [mk_self hH] at w
          refine lv_astore_nN (lv' := [(3, .null), (0, .ref mk), (1, .ref q0), (2, .int (nI k))]) hx hb dX3_twin_60 rfl hl (by decide) rfl (fun ls hl => ?_)
          refine lv_aload_nN hx hb dX3_twin_61 rfl (lv_at hl 0 rfl) ?_
          refine lv_ifnullN (tgt := 75) hx hb dX3_twin_62 (by decide) ?_
          refine lv_iinc (v := nI k + 1) (lv' := [(2, .int (nI k + 1)), (3, .null), (0, .ref mk), (1, .ref q0)]) hx hb dX3_twin_75 hl (k := 3) rfl rfl (by decide) rfl (fun ls hl => ?_)
          refine lv_goto (tgt := 48) hx hb dX3_twin_78 (by decide) ?_
          have hl := hs_lv hl (k := 0) rfl (nI_1 k)
          refine W.widen (k := 3 + (k + 1)) (n := 15 + 7 * (k + 1)) (by omega) (by omega) ?_
          exact ih (k + 1) (by omega) (by omega) N ad2 (by rw [show min (k + 1) n = min k n by omega]; exact hmo) (by rw [show min (k + 1) n = min k n by omega]; exact hfr) H locs ls (by rw [show min (k + 1) n = min k n by omega]; exact w) (lv_sub hl [2, 3, 0] rfl)
  exact loop 7 0 (by omega) (by omega) [q0, q1, q2] (mk_a2 q1 q2) (by rw [show min 0 n = 0 by omega]; exact hmo) (by rw [show min 0 n = 0 by omega]; exact hfr) H locs ls (by rw [show min 0 n = 0 by omega]; exact w) (lv_sub hl [2, 1, 0] rfl)
