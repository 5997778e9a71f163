set_option maxRecDepth 100000 in
set_option maxHeartbeats 4000000 in
theorem c_X1_afterWind (l : Launch) (D : va_G) (b0 : Nat) (L : List Nat) (f : Nat → va_E) (mk : Nat) (ad : Nat → Nat) (n : Nat) (g : Nat → Int32) (hm : mk_ok L mk ad n) (hs : mk_sr g n) (nr : Nat) (ht : mk_t g nr) (h : Nat) (hh : h ≤ 40) (seed rope : Int32) : hg_Mi l yX1_afterWind wsX1_afterWind ({ frames := 5, cells := 1, slots := 3, locals := 114 }) D b0 L (mk_F D f mk ad n g) [.ref mk, .int (nI h), .int (seed), .int (rope)] (fun v u => v = (if rope < 0 ∨ 3 ≤ rope then (hs_wh g n nr seed.toInt64 h).2.2 else (hs_wh g n nr seed.toInt64 h).1 (5 + rope.toNatClampNeg)) ∧ ∃ q, q ∉ L ∧ u = (L ++ [q], mk_F D (va_up f q (.inl (D.1 11, 3, .inl (mk_ta g)))) mk ad n g)) 1 3 := by
  refine hg_in_i (cc := cX1_afterWind) (nL := 10) (by decide) rfl (Nat.le_of_ble_eq_true rfl) (fun p e s m args below meth c R Q X hR hend H locs ls w hl => ?_)
  subst hR
  obtain ⟨hx, hb, hml, hown, hts⟩ := id X.1
  have hin : mk_in wsX1_afterWind := ⟨fun w h => List.mem_cons_of_mem _ (List.mem_append_left _ (List.mem_append_left _ (List.mem_append_left _ (List.mem_append_left _ (List.mem_append_right _ h))))), fun w h => List.mem_cons_of_mem _ (List.mem_append_left _ (List.mem_append_left _ (List.mem_append_left _ (List.mem_append_right _ h)))), fun w h => List.mem_cons_of_mem _ (List.mem_append_left _ (List.mem_append_left _ (List.mem_append_right _ h))), fun w h => List.mem_cons_of_mem _ (List.mem_append_left _ (List.mem_append_right _ h)), fun w h => List.mem_cons_of_mem _ (List.mem_append_right _ h)⟩
  have hin3 : ∀ w ∈ wsX30, w ∈ wsX1_afterWind := fun w h => List.mem_cons_of_mem _ (List.mem_append_left _ (List.mem_append_left _ (List.mem_append_left _ (List.mem_append_left _ (List.mem_append_left _ (List.mem_append_right _ h))))))
  have hl : lv_has ls 10 [(0, .ref mk), (1, .int (nI h)), (2, .int (seed)), (3, .int (rope))] := hl
  have hnr3 := ht.2.1
  refine lv_aload_n hx hb dX1_afterWind_0 rfl (lv_at hl 0 rfl) ?_
  refine mk_getM X w hm hin3 4 (by decide) (List.mem_of_getElem? (i := 1) rfl) rfl dX1_afterWind_1 ?_
  refine hg_clone X w (hm.2.1 0 (by omega)).1 (mk_atk hm D f g (k := 0) (by omega)) (List.mem_of_getElem? (i := 2) rfl) (List.mem_of_getElem? (i := 3) rfl) (List.mem_of_getElem? (i := 4) rfl) (List.mem_of_getElem? (i := 5) rfl) (List.mem_of_getElem? (i := 6) rfl) hl.1 (Nat.le_of_ble_eq_true rfl) (Nat.le_of_ble_eq_true rfl) (Nat.le_of_ble_eq_true rfl) (Nat.le_of_ble_eq_true rfl) dX1_afterWind_4 (fun q H hq w => ?_)
  refine (show W p l e _ s m args below meth c H locs 1 3 Q (F0 m 7 ls [.ref q]) from ?_)
  refine hg_castI X w (List.mem_append_right _ (List.mem_of_getElem? (i := 0) rfl)) (va_up_self _ _ _) (List.mem_of_getElem? (i := 7) rfl) dX1_afterWind_7 ?_
  refine lv_astore (lv' := [(4, .ref q), (0, .ref mk), (1, .int (nI h)), (2, .int (seed)), (3, .int (rope))]) hx hb dX1_afterWind_10 hl (by decide) rfl (fun ls hl => ?_)
  refine lv_iload_n hx hb dX1_afterWind_12 rfl (lv_at hl 3 rfl) ?_
  refine lv_i2l hx hb dX1_afterWind_13 rfl ?_
  refine lv_lstore (lv' := [(5, .long ((seed).toInt64)), (4, .ref q), (0, .ref mk), (1, .int (nI h)), (2, .int (seed)), (3, .int (rope))]) hx hb dX1_afterWind_14 hl (by decide) rfl (fun ls hl => ?_)
  refine lv_iconst (v := 0) hx hb dX1_afterWind_16 (by decide) ?_
  refine lv_istore (lv' := [(7, .int (0)), (5, .long ((seed).toInt64)), (4, .ref q), (0, .ref mk), (1, .int (nI h)), (2, .int (seed)), (3, .int (rope))]) hx hb dX1_afterWind_17 hl (by decide) rfl (fun ls hl => ?_)
  refine lv_iconst (v := 0) hx hb dX1_afterWind_19 (by decide) ?_
  refine lv_istore (lv' := [(8, .int (0)), (7, .int (0)), (5, .long ((seed).toInt64)), (4, .ref q), (0, .ref mk), (1, .int (nI h)), (2, .int (seed)), (3, .int (rope))]) hx hb dX1_afterWind_20 hl (by decide) rfl (fun ls hl => ?_)
  have w : hg_W D b0 (L ++ [q]) (mk_F D (va_up f q (.inl (D.1 11, 3, .inl (mk_ta g)))) mk ad n g) s.heap H locs := by
    rw [← mk_upo (fun e => hq (by rw [e]; exact hm.1)) (fun j hj e => hq (by rw [← e]; exact (hm.2.1 j hj).1))]
    exact w
  have hm0 := hm
  have hm := mk_ok_mono (N := [q]) hm
  have hqf : mk_F D (va_up f q (.inl (D.1 11, 3, .inl (mk_ta g)))) mk ad n g q = .inl (D.1 11, 3, .inl (mk_ta g)) := by
    rw [mk_out (fun e => hq (by rw [e]; exact hm0.1)) (fun j hj e => hq (by rw [← e]; exact (hm0.2.1 j hj).1)), va_up_self]
  have loop : ∀ (n0 k : Nat), k ≤ h → h + 1 ≤ k + n0 → ∀ (G : Nat → Int32) (x : Int64) (hrs : Int32), hs_wh g n nr seed.toInt64 k = (G, x, hrs) → ∀ (H : Heap) (locs : List Loc) (ls : Array Slot), hg_W D b0 (L ++ [q]) (mk_F D (va_up f q (.inl (D.1 11, 3, .inl (mk_ta g)))) mk ad n G) s.heap H locs → lv_has ls 10 [(0, .ref mk), (1, .int (nI h)), (2, .int (seed)), (3, .int (rope)), (4, .ref q), (5, .long (x)), (7, .int (hrs)), (8, .int (nI k))] → W p l e ({ frames := 5, cells := 1, slots := 3, locals := 114 }) s m args below meth c H locs 1 3 Q (F0 m 22 ls []) := by
    intro n0
    induction n0 with
    | zero =>
      intro k h1 h2
      exact absurd h2 (by omega)
    | succ n0 ih =>
      intro k hk hn0 G x hrs hW H locs ls w hl
      have htG : mk_t G nr := by have z := ag_wh_t (n := n) (x := seed.toInt64) ht k; rw [hW] at z; exact z
      have hne : ∀ j, j < 5 ∨ 8 ≤ j → G j = g j := by
        intro j hj
        have z := hs_wh_ne (g := g) (n := n) (nr := nr) (x := seed.toInt64) hnr3 j hj k
        rw [hW] at z
        exact z
      have hsG : mk_sr G n := ag_sr_57 hne hs
      refine lv_iload hx hb dX1_afterWind_22 (lv_at hl 7 rfl) ?_
      refine lv_iload_n hx hb dX1_afterWind_24 rfl (lv_at hl 1 rfl) ?_
      refine lv_icmp_ge (tgt := 115) hx hb dX1_afterWind_25 (by decide) (fun c_25 => ?_) (fun c_25 => ?_)
      · have hk : h = k := by
          rcases Nat.lt_or_ge k h with q | q
          · exact absurd c_25 (nI_ge (a := k) (b := h) q (by omega))
          · omega
        subst hk
        refine lv_iload_n hx hb dX1_afterWind_115 rfl (lv_at hl 3 rfl) ?_
        refine lv_if_lt (tgt := 133) hx hb dX1_afterWind_116 (by decide) (fun c_116 => ?_) (fun c_116 => ?_)
        · refine lv_iload hx hb dX1_afterWind_133 (lv_at hl 6 rfl) ?_
          refine lv_istore (lv' := [(8, .int (hrs)), (0, .ref mk), (1, .int (nI h)), (2, .int (seed)), (3, .int (rope)), (4, .ref q), (5, .long (x)), (7, .int (hrs))]) hx hb dX1_afterWind_135 hl (by decide) rfl (fun ls hl => ?_)
          refine lv_aload hx hb dX1_afterWind_137 (lv_at hl 5 rfl) ?_
          refine lv_iconst (v := 0) hx hb dX1_afterWind_139 (by decide) ?_
          refine lv_aload_n hx hb dX1_afterWind_140 rfl (lv_at hl 1 rfl) ?_
          refine mk_getM X w hm hin3 4 (by decide) (List.mem_of_getElem? (i := 1) rfl) rfl dX1_afterWind_141 ?_
          refine lv_iconst (v := 0) hx hb dX1_afterWind_144 (by decide) ?_
          refine lv_iconst (v := 3) hx hb dX1_afterWind_145 (by decide) ?_
          have hqG : mk_F D (va_up f q (.inl (D.1 11, 3, .inl (mk_ta g)))) mk ad n G q = .inl (D.1 11, 3, .inl (mk_ta g)) := by
            rw [mk_out (fun e => hq (by rw [e]; exact hm0.1)) (fun j hj e => hq (by rw [← e]; exact (hm0.2.1 j hj).1)), va_up_self]
          refine hg_copyi X w (List.mem_append_right _ (List.mem_of_getElem? (i := 0) rfl)) hqG (hm.2.1 0 (by omega)).1 (mk_atk hm D _ _ (k := 0) (by omega)) 0 0 3 rfl rfl rfl (by decide) (by decide) (by decide) (by decide) (List.mem_of_getElem? (i := 13) rfl) (List.mem_of_getElem? (i := 14) rfl) (List.mem_of_getElem? (i := 15) rfl) (List.mem_of_getElem? (i := 16) rfl) hl.1 (Nat.le_of_ble_eq_true rfl) (Nat.le_of_ble_eq_true rfl) dX1_afterWind_146 (fun H locs w => ?_)
          rw [mk_back hm hne] at w
          refine lv_iload hx hb dX1_afterWind_149 (lv_at hl 0 rfl) ?_
          exact hend H locs (hrs) (L ++ [q], mk_F D (va_up f q (.inl (D.1 11, 3, .inl (mk_ta g)))) mk ad n g) _ ls w ⟨(by rw [if_pos (Or.inl c_116), hW]), q, hq, rfl⟩ rfl dX1_afterWind_151
        · refine lv_iload_n hx hb dX1_afterWind_119 rfl (lv_at hl 3 rfl) ?_
          refine lv_iconst (v := 3) hx hb dX1_afterWind_120 (by decide) ?_
          refine lv_icmp_ge (tgt := 133) hx hb dX1_afterWind_121 (by decide) (fun c_121 => ?_) (fun c_121 => ?_)
          · refine lv_iload hx hb dX1_afterWind_133 (lv_at hl 6 rfl) ?_
            refine lv_istore (lv' := [(8, .int (hrs)), (0, .ref mk), (1, .int (nI h)), (2, .int (seed)), (3, .int (rope)), (4, .ref q), (5, .long (x)), (7, .int (hrs))]) hx hb dX1_afterWind_135 hl (by decide) rfl (fun ls hl => ?_)
            refine lv_aload hx hb dX1_afterWind_137 (lv_at hl 5 rfl) ?_
            refine lv_iconst (v := 0) hx hb dX1_afterWind_139 (by decide) ?_
            refine lv_aload_n hx hb dX1_afterWind_140 rfl (lv_at hl 1 rfl) ?_
            refine mk_getM X w hm hin3 4 (by decide) (List.mem_of_getElem? (i := 1) rfl) rfl dX1_afterWind_141 ?_
            refine lv_iconst (v := 0) hx hb dX1_afterWind_144 (by decide) ?_
            refine lv_iconst (v := 3) hx hb dX1_afterWind_145 (by decide) ?_
            have hqG : mk_F D (va_up f q (.inl (D.1 11, 3, .inl (mk_ta g)))) mk ad n G q = .inl (D.1 11, 3, .inl (mk_ta g)) := by
              rw [mk_out (fun e => hq (by rw [e]; exact hm0.1)) (fun j hj e => hq (by rw [← e]; exact (hm0.2.1 j hj).1)), va_up_self]
            refine hg_copyi X w (List.mem_append_right _ (List.mem_of_getElem? (i := 0) rfl)) hqG (hm.2.1 0 (by omega)).1 (mk_atk hm D _ _ (k := 0) (by omega)) 0 0 3 rfl rfl rfl (by decide) (by decide) (by decide) (by decide) (List.mem_of_getElem? (i := 13) rfl) (List.mem_of_getElem? (i := 14) rfl) (List.mem_of_getElem? (i := 15) rfl) (List.mem_of_getElem? (i := 16) rfl) hl.1 (Nat.le_of_ble_eq_true rfl) (Nat.le_of_ble_eq_true rfl) dX1_afterWind_146 (fun H locs w => ?_)
            rw [mk_back hm hne] at w
            refine lv_iload hx hb dX1_afterWind_149 (lv_at hl 0 rfl) ?_
            exact hend H locs (hrs) (L ++ [q], mk_F D (va_up f q (.inl (D.1 11, 3, .inl (mk_ta g)))) mk ad n g) _ ls w ⟨(by rw [if_pos (Or.inr c_121), hW]), q, hq, rfl⟩ rfl dX1_afterWind_151
          · obtain ⟨r, hr2, rfl⟩ := nI_of c_116
            have hr3 : r < 3 := by
              rcases Nat.lt_or_ge r 3 with z | z
              · exact z
              · exact absurd (nI_le (a := 3) (b := r) z (by omega)) c_121
            refine lv_aload_n hx hb dX1_afterWind_124 rfl (lv_at hl 0 rfl) ?_
            refine mk_getM X w hm hin3 4 (by decide) (List.mem_of_getElem? (i := 1) rfl) rfl dX1_afterWind_125 ?_
            refine lv_iload_n hx hb dX1_afterWind_128 rfl (lv_at hl 3 rfl) ?_
            refine mk_taut X w hm r rfl (by omega) dX1_afterWind_129 ?_
            refine lv_goto (tgt := 135) hx hb dX1_afterWind_130 (by decide) ?_
            refine lv_istore (lv' := [(8, .int (G (5 + r))), (0, .ref mk), (1, .int (nI h)), (2, .int (seed)), (3, .int (nI r)), (4, .ref q), (5, .long (x)), (7, .int (hrs))]) hx hb dX1_afterWind_135 hl (by decide) rfl (fun ls hl => ?_)
            refine lv_aload hx hb dX1_afterWind_137 (lv_at hl 5 rfl) ?_
            refine lv_iconst (v := 0) hx hb dX1_afterWind_139 (by decide) ?_
            refine lv_aload_n hx hb dX1_afterWind_140 rfl (lv_at hl 1 rfl) ?_
            refine mk_getM X w hm hin3 4 (by decide) (List.mem_of_getElem? (i := 1) rfl) rfl dX1_afterWind_141 ?_
            refine lv_iconst (v := 0) hx hb dX1_afterWind_144 (by decide) ?_
            refine lv_iconst (v := 3) hx hb dX1_afterWind_145 (by decide) ?_
            have hqG : mk_F D (va_up f q (.inl (D.1 11, 3, .inl (mk_ta g)))) mk ad n G q = .inl (D.1 11, 3, .inl (mk_ta g)) := by
              rw [mk_out (fun e => hq (by rw [e]; exact hm0.1)) (fun j hj e => hq (by rw [← e]; exact (hm0.2.1 j hj).1)), va_up_self]
            refine hg_copyi X w (List.mem_append_right _ (List.mem_of_getElem? (i := 0) rfl)) hqG (hm.2.1 0 (by omega)).1 (mk_atk hm D _ _ (k := 0) (by omega)) 0 0 3 rfl rfl rfl (by decide) (by decide) (by decide) (by decide) (List.mem_of_getElem? (i := 13) rfl) (List.mem_of_getElem? (i := 14) rfl) (List.mem_of_getElem? (i := 15) rfl) (List.mem_of_getElem? (i := 16) rfl) hl.1 (Nat.le_of_ble_eq_true rfl) (Nat.le_of_ble_eq_true rfl) dX1_afterWind_146 (fun H locs w => ?_)
            rw [mk_back hm hne] at w
            refine lv_iload hx hb dX1_afterWind_149 (lv_at hl 0 rfl) ?_
            exact hend H locs (G (5 + r)) (L ++ [q], mk_F D (va_up f q (.inl (D.1 11, 3, .inl (mk_ta g)))) mk ad n g) _ ls w ⟨(by rw [if_neg (fun z => z.elim c_116 c_121), hW]; rw [nI_clamp (by omega)]), q, hq, rfl⟩ rfl dX1_afterWind_151
      · have hkl : k < h := by
          rcases Nat.lt_or_ge k h with q | q
          · exact q
          · exact absurd (nI_le (a := h) (b := k) q (by omega)) c_25
        refine lv_iconst (v := 0) hx hb dX1_afterWind_28 (by decide) ?_
        refine lv_istore (lv' := [(9, .int (0)), (0, .ref mk), (1, .int (nI h)), (2, .int (seed)), (3, .int (rope)), (4, .ref q), (5, .long (x)), (7, .int (hrs)), (8, .int (nI k))]) hx hb dX1_afterWind_29 hl (by decide) rfl (fun ls hl => ?_)
        have loop2 : ∀ (n0 k2 : Nat), k2 ≤ nr → nr + 1 ≤ k2 + n0 → ∀ (G2 : Nat → Int32) (x2 : Int64), hs_wr G x k2 = (G2, x2) → ∀ (H : Heap) (locs : List Loc) (ls : Array Slot), hg_W D b0 (L ++ [q]) (mk_F D (va_up f q (.inl (D.1 11, 3, .inl (mk_ta g)))) mk ad n G2) s.heap H locs → lv_has ls 10 [(0, .ref mk), (1, .int (nI h)), (2, .int (seed)), (3, .int (rope)), (4, .ref q), (5, .long (x2)), (7, .int (hrs)), (8, .int (nI k)), (9, .int (nI k2))] → W p l e ({ frames := 5, cells := 1, slots := 3, locals := 114 }) s m args below meth c H locs 1 3 Q (F0 m 31 ls []) := by
          intro n0
          induction n0 with
          | zero =>
            intro k2 h1 h2
            exact absurd h2 (by omega)
          | succ n0 ih2 =>
            intro k2 hk2 hn2 G2 x2 hW2 H locs ls w hl
            have htG2 : mk_t G2 nr := by have z := ag_wr_t (x := x) htG k2 hk2; rw [hW2] at z; exact z
            have hne2 : ∀ j, j < 5 ∨ 8 ≤ j → G2 j = G j := by
              intro j hj
              have z := hs_wr_ne (g := G) (x := x) j hj k2 (by omega)
              rw [hW2] at z
              exact z
            have hsG2 : mk_sr G2 n := ag_sr_57 hne2 hsG
            refine lv_iload hx hb dX1_afterWind_31 (lv_at hl 8 rfl) ?_
            refine lv_aload_n hx hb dX1_afterWind_33 rfl (lv_at hl 0 rfl) ?_
            refine mk_getM X w hm hin3 2 (by decide) (List.mem_of_getElem? (i := 8) rfl) rfl dX1_afterWind_34 ?_
            refine lv_icmp_ge (tgt := 97) hx hb dX1_afterWind_37 (by decide) (fun c_37 => ?_) (fun c_37 => ?_)
            · rw [htG2.1] at c_37
              have hk2 : nr = k2 := by
                rcases Nat.lt_or_ge k2 nr with q | q
                · exact absurd c_37 (nI_ge (a := k2) (b := nr) q (by omega))
                · omega
              subst hk2
              refine lv_aload_n hx hb dX1_afterWind_97 rfl (lv_at hl 0 rfl) ?_
              refine hg_viF (r := (mk_fd G2 n n)) (As := []) (rest := []) X w (c_X3_firstDropping l D b0 (L ++ [q]) (va_up f q (.inl (D.1 11, 3, .inl (mk_ta g)))) mk ad n G2 hm hsG2 nr htG2) (cwV 0 hts gX1_afterWind_X3_firstDropping rfl rfl rfl hdX3_firstDropping ⟨Nat.le_of_ble_eq_true rfl, Nat.le_of_ble_eq_true rfl⟩) hm.1 (mk_at0 D _ mk ad n _) rfl rfl rfl hl.1 rfl (Nat.le_of_ble_eq_true rfl) dX1_afterWind_98 ⟨Nat.le_of_ble_eq_true rfl, Nat.le_of_ble_eq_true rfl⟩ (fun H locs w => ?_)
              refine lv_ldc (v := (-1000000)) hx hb hown (hts _ (List.mem_of_getElem? (i := 12) rfl)) dX1_afterWind_101 ?_
              refine lv_icmp_ne (tgt := 109) hx hb dX1_afterWind_103 (by decide) (fun c_103 => ?_) (fun c_103 => ?_)
              · refine lv_iinc (v := nI k + 1) (lv' := [(8, .int (nI k + 1)), (0, .ref mk), (1, .int (nI h)), (2, .int (seed)), (3, .int (rope)), (4, .ref q), (5, .long (x2)), (7, .int (hrs)), (9, .int (nI nr))]) hx hb dX1_afterWind_109 hl (k := 7) rfl rfl (by decide) rfl (fun ls hl => ?_)
                refine lv_goto (tgt := 22) hx hb dX1_afterWind_112 (by decide) ?_
                have hl := hs_lv hl (k := 0) rfl (nI_1 k)
                exact ih (k + 1) (by omega) (by omega) G2 x2 hrs (by simp only [hs_wh, hW, hW2]; rw [if_neg (fun z => c_103 ((ag_fd0 hs.2.1).mpr z))]; simp) H locs ls w (lv_sub hl [1, 2, 3, 4, 5, 6, 7, 0] rfl)
              · refine lv_iinc (v := hrs + 1) (lv' := [(7, .int (hrs + 1)), (0, .ref mk), (1, .int (nI h)), (2, .int (seed)), (3, .int (rope)), (4, .ref q), (5, .long (x2)), (8, .int (nI k)), (9, .int (nI nr))]) hx hb dX1_afterWind_106 hl (k := 6) rfl rfl (by decide) rfl (fun ls hl => ?_)
                refine lv_iinc (v := nI k + 1) (lv' := [(8, .int (nI k + 1)), (7, .int (hrs + 1)), (0, .ref mk), (1, .int (nI h)), (2, .int (seed)), (3, .int (rope)), (4, .ref q), (5, .long (x2)), (9, .int (nI nr))]) hx hb dX1_afterWind_109 hl (k := 7) rfl rfl (by decide) rfl (fun ls hl => ?_)
                refine lv_goto (tgt := 22) hx hb dX1_afterWind_112 (by decide) ?_
                have hl := hs_lv hl (k := 0) rfl (nI_1 k)
                exact ih (k + 1) (by omega) (by omega) G2 x2 (hrs + 1) (by simp only [hs_wh, hW, hW2]; rw [if_pos ((ag_fd0 hs.2.1).mp c_103)]) H locs ls w (lv_sub hl [2, 3, 4, 5, 6, 7, 1, 0] rfl)
            · rw [htG2.1] at c_37
              have hk2l : k2 < nr := by
                rcases Nat.lt_or_ge k2 nr with q | q
                · exact q
                · exact absurd (nI_le (a := nr) (b := k2) q (by omega)) c_37
              refine lv_iload hx hb dX1_afterWind_40 (lv_at hl 8 rfl) ?_
              refine lv_iconst (v := 3) hx hb dX1_afterWind_42 (by decide) ?_
              refine lv_icmp_ge (tgt := 97) hx hb dX1_afterWind_43 (by decide) (fun c_43 => ?_) (fun c_43 => ?_)
              · exact absurd c_43 (nI_ge (a := k2) (b := 3) (by omega) (by decide))
              · refine lv_lload hx hb dX1_afterWind_46 (lv_at hl 5 rfl) ?_
                refine lv_ldc2 (v := 16807) hx hb hown (hts _ (List.mem_of_getElem? (i := 9) rfl)) dX1_afterWind_48 ?_
                refine lv_lmul hx hb dX1_afterWind_51 ?_
                refine lv_ldc2 (v := 2147483647) hx hb hown (hts _ (List.mem_of_getElem? (i := 10) rfl)) dX1_afterWind_52 ?_
                refine lv_lrem hx hb dX1_afterWind_55 (by decide) ?_
                refine lv_lstore (lv' := [(5, .long (((x2 * 16807) - (x2 * 16807) / 2147483647 * 2147483647))), (0, .ref mk), (1, .int (nI h)), (2, .int (seed)), (3, .int (rope)), (4, .ref q), (7, .int (hrs)), (8, .int (nI k)), (9, .int (nI k2))]) hx hb dX1_afterWind_56 hl (by decide) rfl (fun ls hl => ?_)
                refine lv_lload hx hb dX1_afterWind_58 (lv_at hl 0 rfl) ?_
                refine lv_ldc2 (v := 20) hx hb hown (hts _ (List.mem_of_getElem? (i := 11) rfl)) dX1_afterWind_60 ?_
                refine lv_lrem hx hb dX1_afterWind_63 (by decide) ?_
                refine lv_lconst (v := 0) hx hb dX1_afterWind_64 (by decide) ?_
                refine W.lcmp hx hb dX1_afterWind_65 ?_
                refine lv_if_ne (tgt := 91) hx hb dX1_afterWind_66 (by decide) (fun c_66 => ?_) (fun c_66 => ?_)
                · refine lv_iinc (v := nI k2 + 1) (lv' := [(9, .int (nI k2 + 1)), (5, .long (((x2 * 16807) - (x2 * 16807) / 2147483647 * 2147483647))), (0, .ref mk), (1, .int (nI h)), (2, .int (seed)), (3, .int (rope)), (4, .ref q), (7, .int (hrs)), (8, .int (nI k))]) hx hb dX1_afterWind_91 hl (k := 8) rfl rfl (by decide) rfl (fun ls hl => ?_)
                  refine lv_goto (tgt := 31) hx hb dX1_afterWind_94 (by decide) ?_
                  have hl := hs_lv hl (k := 0) rfl (nI_1 k2)
                  exact ih2 (k2 + 1) (by omega) (by omega) G2 (hs_wx x2) (ag_wr_n hW2 (fun z => c_66 ((lg_cmp_eq _ _).mpr z.1))) H locs ls w (lv_sub hl [2, 3, 4, 5, 6, 1, 7, 8, 0] rfl)
                · refine lv_aload_n hx hb dX1_afterWind_69 rfl (lv_at hl 1 rfl) ?_
                  refine mk_getM X w hm hin3 4 (by decide) (List.mem_of_getElem? (i := 1) rfl) rfl dX1_afterWind_70 ?_
                  refine lv_iload hx hb dX1_afterWind_73 (lv_at hl 8 rfl) ?_
                  refine mk_taut X w hm k2 rfl (by omega) dX1_afterWind_75 ?_
                  refine lv_iconst (v := 1) hx hb dX1_afterWind_76 (by decide) ?_
                  refine lv_icmp_le (tgt := 91) hx hb dX1_afterWind_77 (by decide) (fun c_77 => ?_) (fun c_77 => ?_)
                  · refine lv_iinc (v := nI k2 + 1) (lv' := [(9, .int (nI k2 + 1)), (5, .long (((x2 * 16807) - (x2 * 16807) / 2147483647 * 2147483647))), (0, .ref mk), (1, .int (nI h)), (2, .int (seed)), (3, .int (rope)), (4, .ref q), (7, .int (hrs)), (8, .int (nI k))]) hx hb dX1_afterWind_91 hl (k := 8) rfl rfl (by decide) rfl (fun ls hl => ?_)
                    refine lv_goto (tgt := 31) hx hb dX1_afterWind_94 (by decide) ?_
                    have hl := hs_lv hl (k := 0) rfl (nI_1 k2)
                    exact ih2 (k2 + 1) (by omega) (by omega) G2 (hs_wx x2) (ag_wr_n hW2 (fun z => absurd z.2 (hs_nlt c_77))) H locs ls w (lv_sub hl [2, 3, 4, 5, 6, 1, 7, 8, 0] rfl)
                  · refine lv_aload_n hx hb dX1_afterWind_80 rfl (lv_at hl 1 rfl) ?_
                    refine mk_getM X w hm hin3 4 (by decide) (List.mem_of_getElem? (i := 1) rfl) rfl dX1_afterWind_81 ?_
                    refine lv_iload hx hb dX1_afterWind_84 (lv_at hl 8 rfl) ?_
                    refine lv_dup2_11 hx hb dX1_afterWind_86 rfl rfl ?_
                    refine mk_taut X w hm k2 rfl (by omega) dX1_afterWind_87 ?_
                    refine lv_iconst (v := 1) hx hb dX1_afterWind_88 (by decide) ?_
                    refine lv_isub hx hb dX1_afterWind_89 ?_
                    refine mk_tast X w hm k2 rfl (by omega) dX1_afterWind_90 (fun H locs w => ?_)
                    refine lv_iinc (v := nI k2 + 1) (lv' := [(9, .int (nI k2 + 1)), (5, .long (((x2 * 16807) - (x2 * 16807) / 2147483647 * 2147483647))), (0, .ref mk), (1, .int (nI h)), (2, .int (seed)), (3, .int (rope)), (4, .ref q), (7, .int (hrs)), (8, .int (nI k))]) hx hb dX1_afterWind_91 hl (k := 8) rfl rfl (by decide) rfl (fun ls hl => ?_)
                    refine lv_goto (tgt := 31) hx hb dX1_afterWind_94 (by decide) ?_
                    have hl := hs_lv hl (k := 0) rfl (nI_1 k2)
                    exact ih2 (k2 + 1) (by omega) (by omega) (va_up G2 (5 + k2) (G2 (5 + k2) - 1)) (hs_wx x2) (ag_wr_y hW2 ((lg_cmp_eq _ _).mp c_66) (hs_lt c_77)) H locs ls w (lv_sub hl [2, 3, 4, 5, 6, 1, 7, 8, 0] rfl)
        exact loop2 (nr + 1) 0 (by omega) (by omega) G x rfl H locs ls w (lv_sub hl [1, 2, 3, 4, 5, 6, 7, 8, 0] rfl)
  exact loop (h + 1) 0 (by omega) (by omega) g seed.toInt64 0 rfl H locs ls w (lv_sub hl [4, 5, 6, 7, 3, 2, 1, 0] rfl)
