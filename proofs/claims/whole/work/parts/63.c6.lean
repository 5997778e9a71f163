theorem hdX3_countWalkways : yX3_countWalkways.cls = RX3 ∧ yX3_countWalkways.cls ≠ "java/lang/invoke/MethodHandle" ∧ yX3_countWalkways.cls ≠ "java/lang/invoke/VarHandle" ∧ (parseMethodDescriptor yX3_countWalkways.desc).map (fun d => d.parameters.length) = some 1 := by decide +kernel
set_option maxRecDepth 100000 in
set_option maxHeartbeats 4000000 in
theorem c_X1_slideToMeet (l : Launch) (D : va_G) (b0 : Nat) (L : List Nat) (f : Nat → va_E) (mk : Nat) (ad : Nat → Nat) (n : Nat) (g : Nat → Int32) (hm : mk_ok L mk ad n) (hs : mk_sr g n) (nr : Nat) (ht : mk_t g nr) (what : Int32) : hg_Fi l yX1_slideToMeet wsX1_slideToMeet ({ frames := 6, cells := 0, slots := 0, locals := 142 }) D b0 L (mk_F D f mk ad n g) [.ref mk, .int (what)] (if what = 0 then (mk_sl g n n).1 else (mk_sl g n n).2) (mk_F D f mk ad n g) := by
  refine hg_in_i (cc := cX1_slideToMeet) (nL := 11) (by decide) rfl (Nat.le_of_ble_eq_true rfl) (fun p e s m args below meth c R Q X hR hend H locs ls w hl => ?_)
  subst hR
  obtain ⟨hx, hb, hml, hown, hts⟩ := id X.1
  have hin : mk_in wsX1_slideToMeet := ⟨fun w h => List.mem_cons_of_mem _ (List.mem_append_left _ (List.mem_append_left _ (List.mem_append_left _ (List.mem_append_left _ (List.mem_append_right _ h))))), fun w h => List.mem_cons_of_mem _ (List.mem_append_left _ (List.mem_append_left _ (List.mem_append_left _ (List.mem_append_right _ h)))), fun w h => List.mem_cons_of_mem _ (List.mem_append_left _ (List.mem_append_left _ (List.mem_append_right _ h))), fun w h => List.mem_cons_of_mem _ (List.mem_append_left _ (List.mem_append_right _ h)), fun w h => List.mem_cons_of_mem _ (List.mem_append_right _ h)⟩
  have hin3 : ∀ w ∈ wsX30, w ∈ wsX1_slideToMeet := fun w h => List.mem_cons_of_mem _ (List.mem_append_left _ (List.mem_append_left _ (List.mem_append_left _ (List.mem_append_left _ (List.mem_append_left _ (List.mem_append_right _ h))))))
  have hl : lv_has ls 11 [(0, .ref mk), (1, .int (what))] := hl
  have hn6 := hs.2.1
  refine lv_ldc (v := (-1000000)) hx hb hown (hts _ (List.mem_of_getElem? (i := 1) rfl)) dX1_slideToMeet_0 ?_
  refine lv_istore_n (lv' := [(2, .int ((-1000000))), (0, .ref mk), (1, .int (what))]) hx hb dX1_slideToMeet_2 rfl hl (by decide) rfl (fun ls hl => ?_)
  refine lv_ldc (v := (-1000000)) hx hb hown (hts _ (List.mem_of_getElem? (i := 1) rfl)) dX1_slideToMeet_3 ?_
  refine lv_istore_n (lv' := [(3, .int ((-1000000))), (2, .int ((-1000000))), (0, .ref mk), (1, .int (what))]) hx hb dX1_slideToMeet_5 rfl hl (by decide) rfl (fun ls hl => ?_)
  refine lv_aload_n hx hb dX1_slideToMeet_6 rfl (lv_at hl 2 rfl) ?_
  refine mk_getM X w hm hin3 5 (by decide) (List.mem_of_getElem? (i := 2) rfl) rfl dX1_slideToMeet_7 ?_
  refine lv_astore (lv' := [(4, .ref (ad 1)), (3, .int ((-1000000))), (2, .int ((-1000000))), (0, .ref mk), (1, .int (what))]) hx hb dX1_slideToMeet_10 hl (by decide) rfl (fun ls hl => ?_)
  refine lv_aload hx hb dX1_slideToMeet_12 (lv_at hl 0 rfl) ?_
  refine mk_len X w hm dX1_slideToMeet_14 ?_
  refine lv_istore (lv' := [(5, .int (6)), (4, .ref (ad 1)), (3, .int ((-1000000))), (2, .int ((-1000000))), (0, .ref mk), (1, .int (what))]) hx hb dX1_slideToMeet_15 hl (by decide) rfl (fun ls hl => ?_)
  refine lv_iconst (v := 0) hx hb dX1_slideToMeet_17 (by decide) ?_
  refine lv_istore (lv' := [(6, .int (0)), (5, .int (6)), (4, .ref (ad 1)), (3, .int ((-1000000))), (2, .int ((-1000000))), (0, .ref mk), (1, .int (what))]) hx hb dX1_slideToMeet_18 hl (by decide) rfl (fun ls hl => ?_)
  have loop : ∀ (n0 k : Nat), k ≤ 6 → 6 + 1 ≤ k + n0 → ∀ (H : Heap) (locs : List Loc) (ls : Array Slot), hg_W D b0 L (mk_F D f mk ad n g) s.heap H locs → lv_has ls 11 [(0, .ref mk), (1, .int (what)), (2, .int ((mk_sl g n (min k n)).1)), (3, .int ((mk_sl g n (min k n)).2)), (4, .ref (ad 1)), (5, .int (6)), (6, .int (nI k))] → W p l e ({ frames := 6, cells := 0, slots := 0, locals := 142 }) s m args below meth c H locs 0 0 Q (F0 m 20 ls []) := by
    intro n0
    induction n0 with
    | zero =>
      intro k h1 h2
      exact absurd h2 (by omega)
    | succ n0 ih =>
      intro k hk hn0 H locs ls w hl
      refine lv_iload hx hb dX1_slideToMeet_20 (lv_at hl 6 rfl) ?_
      refine lv_iload hx hb dX1_slideToMeet_22 (lv_at hl 5 rfl) ?_
      refine lv_icmp_ge (tgt := 124) hx hb dX1_slideToMeet_24 (by decide) (fun c_24 => ?_) (fun c_24 => ?_)
      · have hk : 6 = k := by
          rcases Nat.lt_or_ge k 6 with q | q
          · exact absurd c_24 (nI_ge (a := k) (b := 6) q (by omega))
          · omega
        subst hk
        refine lv_iload_n hx hb dX1_slideToMeet_124 rfl (lv_at hl 1 rfl) ?_
        refine lv_if_ne (tgt := 132) hx hb dX1_slideToMeet_125 (by decide) (fun c_125 => ?_) (fun c_125 => ?_)
        · refine lv_iload_n hx hb dX1_slideToMeet_132 rfl (lv_at hl 3 rfl) ?_
          exact hend H locs ((mk_sl g n (min 6 n)).2) (L, mk_F D f mk ad n g) _ ls w ⟨(by rw [show min 6 n = n by omega, if_neg c_125]), rfl⟩ rfl dX1_slideToMeet_133
        · refine lv_iload_n hx hb dX1_slideToMeet_128 rfl (lv_at hl 2 rfl) ?_
          refine lv_goto (tgt := 133) hx hb dX1_slideToMeet_129 (by decide) ?_
          exact hend H locs ((mk_sl g n (min 6 n)).1) (L, mk_F D f mk ad n g) _ ls w ⟨(by rw [show min 6 n = n by omega, if_pos c_125]), rfl⟩ rfl dX1_slideToMeet_133
      · have hkl : k < 6 := by
          rcases Nat.lt_or_ge k 6 with q | q
          · exact q
          · exact absurd (nI_le (a := 6) (b := k) q (by omega)) c_24
        refine lv_aload hx hb dX1_slideToMeet_27 (lv_at hl 4 rfl) ?_
        refine lv_iload hx hb dX1_slideToMeet_29 (lv_at hl 6 rfl) ?_
        refine mk_ald X w hm k rfl (by omega) dX1_slideToMeet_31 (fun hjk => ?_) (fun hjk => ?_)
        · refine lv_astore (lv' := [(7, .ref (ad (2 + k))), (0, .ref mk), (1, .int (what)), (2, .int ((mk_sl g n (min k n)).1)), (3, .int ((mk_sl g n (min k n)).2)), (4, .ref (ad 1)), (5, .int (6)), (6, .int (nI k))]) hx hb dX1_slideToMeet_32 hl (by decide) rfl (fun ls hl => ?_)
          refine lv_iconst (v := 1) hx hb dX1_slideToMeet_34 (by decide) ?_
          refine lv_istore (lv' := [(8, .int (1)), (7, .ref (ad (2 + k))), (0, .ref mk), (1, .int (what)), (2, .int ((mk_sl g n (min k n)).1)), (3, .int ((mk_sl g n (min k n)).2)), (4, .ref (ad 1)), (5, .int (6)), (6, .int (nI k))]) hx hb dX1_slideToMeet_35 hl (by decide) rfl (fun ls hl => ?_)
          have loop2 : ∀ (n0 k2 : Nat), k2 ≤ 8 → 8 + 1 ≤ k2 + n0 → ∀ (H : Heap) (locs : List Loc) (ls : Array Slot), hg_W D b0 L (mk_F D f mk ad n g) s.heap H locs → lv_has ls 11 [(0, .ref mk), (1, .int (what)), (2, .int ((mk_sl1 g n k (mk_sl g n (min k n)).1 (mk_sl g n (min k n)).2 k2).1)), (3, .int ((mk_sl1 g n k (mk_sl g n (min k n)).1 (mk_sl g n (min k n)).2 k2).2)), (4, .ref (ad 1)), (5, .int (6)), (6, .int (nI k)), (7, .ref (ad (2 + k))), (8, .int (nI (k2 + 1)))] → W p l e ({ frames := 6, cells := 0, slots := 0, locals := 142 }) s m args below meth c H locs 0 0 Q (F0 m 37 ls []) := by
            intro n0
            induction n0 with
            | zero =>
              intro k2 h1 h2
              exact absurd h2 (by omega)
            | succ n0 ih2 =>
              intro k2 hk hn0 H locs ls w hl
              refine lv_iload hx hb dX1_slideToMeet_37 (lv_at hl 8 rfl) ?_
              refine lv_bipush (v := 8) hx hb dX1_slideToMeet_39 (by decide) ?_
              refine lv_icmp_gt (tgt := 118) hx hb dX1_slideToMeet_41 (by decide) (fun c_41 => ?_) (fun c_41 => ?_)
              · have hk2 : 8 = k2 := by
                  rcases Nat.lt_or_ge k2 8 with q | q
                  · exact absurd c_41 (nI_nlt (a := 8) (b := (k2 + 1)) (by omega) (by omega))
                  · omega
                subst hk2
                refine lv_iinc (v := nI k + 1) (lv' := [(6, .int (nI k + 1)), (0, .ref mk), (1, .int (what)), (2, .int ((mk_sl1 g n k (mk_sl g n (min k n)).1 (mk_sl g n (min k n)).2 8).1)), (3, .int ((mk_sl1 g n k (mk_sl g n (min k n)).1 (mk_sl g n (min k n)).2 8).2)), (4, .ref (ad 1)), (5, .int (6)), (7, .ref (ad (2 + k))), (8, .int (nI (8 + 1)))]) hx hb dX1_slideToMeet_118 hl (k := 6) rfl rfl (by decide) rfl (fun ls hl => ?_)
                refine lv_goto (tgt := 20) hx hb dX1_slideToMeet_121 (by decide) ?_
                have he2 : ((mk_sl1 g n k (mk_sl g n (min k n)).1 (mk_sl g n (min k n)).2 8).1) = (mk_sl g n (min (k + 1) n)).1 := by rw [← mk_sl_y hjk]
                have hl := hs_lv hl (k := 3) rfl he2
                have he3 : ((mk_sl1 g n k (mk_sl g n (min k n)).1 (mk_sl g n (min k n)).2 8).2) = (mk_sl g n (min (k + 1) n)).2 := by rw [← mk_sl_y hjk]
                have hl := hs_lv hl (k := 4) rfl he3
                have hl := hs_lv hl (k := 0) rfl (nI_1 k)
                exact ih (k + 1) (by omega) (by omega) H locs ls w (lv_sub hl [1, 2, 3, 4, 5, 6, 0] rfl)
              · have hk2l : k2 < 8 := by
                  rcases Nat.lt_or_ge k2 8 with q | q
                  · exact q
                  · exact absurd (nI_lt (a := 8) (b := (k2 + 1)) (by omega) (by omega)) c_41
                refine lv_aload hx hb dX1_slideToMeet_44 (lv_at hl 7 rfl) ?_
                refine lv_ifnull hx hb dX1_slideToMeet_46 ?_
                refine lv_aload_n hx hb dX1_slideToMeet_49 rfl (lv_at hl 0 rfl) ?_
                refine lv_aload hx hb dX1_slideToMeet_50 (lv_at hl 7 rfl) ?_
                refine mk_get X w hm hs hin hjk 1 (by decide) (List.mem_of_getElem? (i := 3) rfl) (Or.inl rfl) rfl dX1_slideToMeet_52 ?_
                refine lv_iload hx hb dX1_slideToMeet_55 (lv_at hl 8 rfl) ?_
                refine hg_vqF (r := (mk_std g (g (14 + k)) (nI (k2 + 1)) n).map (fun j => ad (2 + j))) (As := [.int (g (14 + k)), .int (nI (k2 + 1))]) (rest := []) X w (c_X3_standing l D b0 L f mk ad n g hm hs (g (14 + k)) (nI (k2 + 1))) (cwV 2 hts gX1_slideToMeet_X3_standing rfl rfl rfl hdX3_standing ⟨Nat.le_of_ble_eq_true rfl, Nat.le_of_ble_eq_true rfl⟩) (hm.1) (mk_at0 D f mk ad n _) rfl rfl rfl hl.1 rfl (Nat.le_of_ble_eq_true rfl) dX1_slideToMeet_57 ⟨Nat.zero_le _, Nat.zero_le _⟩ (fun H locs w => ?_)
                refine mk_qk (ad := ad) (fun hq57 => ?_) (fun jq57 hq57 => ?_)
                · refine lv_ifnonnullN hx hb dX1_slideToMeet_60 ?_
                  refine lv_aload hx hb dX1_slideToMeet_63 (lv_at hl 7 rfl) ?_
                  refine mk_get X w hm hs hin hjk 2 (by decide) (List.mem_of_getElem? (i := 4) rfl) (Or.inl rfl) rfl dX1_slideToMeet_65 ?_
                  refine lv_istore (lv' := [(9, .int (g (20 + k))), (0, .ref mk), (1, .int (what)), (2, .int ((mk_sl1 g n k (mk_sl g n (min k n)).1 (mk_sl g n (min k n)).2 k2).1)), (3, .int ((mk_sl1 g n k (mk_sl g n (min k n)).1 (mk_sl g n (min k n)).2 k2).2)), (4, .ref (ad 1)), (5, .int (6)), (6, .int (nI k)), (7, .ref (ad (2 + k))), (8, .int (nI (k2 + 1)))]) hx hb dX1_slideToMeet_68 hl (by decide) rfl (fun ls hl => ?_)
                  refine lv_aload hx hb dX1_slideToMeet_70 (lv_at hl 8 rfl) ?_
                  refine lv_iload hx hb dX1_slideToMeet_72 (lv_at hl 9 rfl) ?_
                  refine mk_put X w hm hs hin hjk 2 (by decide) (List.mem_of_getElem? (i := 4) rfl) (fun q => absurd q (by decide)) dX1_slideToMeet_74 (fun H locs w => ?_)
                  have w : hg_W D b0 L (mk_F D f mk ad n (va_up g (20 + k) (nI (k2 + 1)))) s.heap H locs := w
                  refine lv_aload_n hx hb dX1_slideToMeet_77 rfl (lv_at hl 1 rfl) ?_
                  refine lv_iconst (v := 1) hx hb dX1_slideToMeet_78 (by decide) ?_
                  refine hg_viF (r := (mk_w (va_up g (20 + k) (nI (k2 + 1))) n 1 n)) (As := [.int (1)]) (rest := []) X w (c_X3_countWalkways l D b0 L f mk ad n (va_up g (20 + k) (nI (k2 + 1))) hm (mk_sr_up (by omega) hs) nr (mk_t_up (by omega) ht) 1) (cwV 1 hts gX1_slideToMeet_X3_countWalkways rfl rfl rfl hdX3_countWalkways ⟨Nat.le_of_ble_eq_true rfl, Nat.le_of_ble_eq_true rfl⟩) hm.1 (mk_at0 D f mk ad n _) rfl rfl rfl hl.1 rfl (Nat.le_of_ble_eq_true rfl) dX1_slideToMeet_79 ⟨Nat.zero_le _, Nat.zero_le _⟩ (fun H locs w => ?_)
                  refine lv_istore (lv' := [(10, .int ((mk_w (va_up g (20 + k) (nI (k2 + 1))) n 1 n))), (9, .int (g (20 + k))), (0, .ref mk), (1, .int (what)), (2, .int ((mk_sl1 g n k (mk_sl g n (min k n)).1 (mk_sl g n (min k n)).2 k2).1)), (3, .int ((mk_sl1 g n k (mk_sl g n (min k n)).1 (mk_sl g n (min k n)).2 k2).2)), (4, .ref (ad 1)), (5, .int (6)), (6, .int (nI k)), (7, .ref (ad (2 + k))), (8, .int (nI (k2 + 1)))]) hx hb dX1_slideToMeet_82 hl (by decide) rfl (fun ls hl => ?_)
                  refine lv_aload hx hb dX1_slideToMeet_84 (lv_at hl 9 rfl) ?_
                  refine lv_iload hx hb dX1_slideToMeet_86 (lv_at hl 1 rfl) ?_
                  refine mk_put X w hm (mk_sr_up (by omega) hs) hin hjk 2 (by decide) (List.mem_of_getElem? (i := 4) rfl) (fun q => absurd q (by decide)) dX1_slideToMeet_88 (fun H locs w => ?_)
                  have w : hg_W D b0 L (mk_F D f mk ad n (va_up (va_up g (20 + k) (nI (k2 + 1))) (20 + k) (g (20 + k)))) s.heap H locs := w
                  rw [hs_uu] at w
                  rw [hs_up_id] at w
                  refine lv_iload hx hb dX1_slideToMeet_91 (lv_at hl 0 rfl) ?_
                  refine lv_iload_n hx hb dX1_slideToMeet_93 rfl (lv_at hl 5 rfl) ?_
                  refine lv_icmp_le (tgt := 112) hx hb dX1_slideToMeet_94 (by decide) (fun c_94 => ?_) (fun c_94 => ?_)
                  · refine lv_iinc (v := nI (k2 + 1) + 1) (lv' := [(8, .int (nI (k2 + 1) + 1)), (10, .int ((mk_w (va_up g (20 + k) (nI (k2 + 1))) n 1 n))), (9, .int (g (20 + k))), (0, .ref mk), (1, .int (what)), (2, .int ((mk_sl1 g n k (mk_sl g n (min k n)).1 (mk_sl g n (min k n)).2 k2).1)), (3, .int ((mk_sl1 g n k (mk_sl g n (min k n)).1 (mk_sl g n (min k n)).2 k2).2)), (4, .ref (ad 1)), (5, .int (6)), (6, .int (nI k)), (7, .ref (ad (2 + k)))]) hx hb dX1_slideToMeet_112 hl (k := 10) rfl rfl (by decide) rfl (fun ls hl => ?_)
                    refine lv_goto (tgt := 37) hx hb dX1_slideToMeet_115 (by decide) ?_
                    have he2 : ((mk_sl1 g n k (mk_sl g n (min k n)).1 (mk_sl g n (min k n)).2 k2).1) = (mk_sl1 g n k (mk_sl g n (min k n)).1 (mk_sl g n (min k n)).2 (k2 + 1)).1 := by (try simp only [← Int32.not_lt, Classical.not_not] at c_94); simp [mk_sl1, hq57, c_94]
                    have hl := hs_lv hl (k := 5) rfl he2
                    have he3 : ((mk_sl1 g n k (mk_sl g n (min k n)).1 (mk_sl g n (min k n)).2 k2).2) = (mk_sl1 g n k (mk_sl g n (min k n)).1 (mk_sl g n (min k n)).2 (k2 + 1)).2 := by (try simp only [← Int32.not_lt, Classical.not_not] at c_94); simp [mk_sl1, hq57, c_94]
                    have hl := hs_lv hl (k := 6) rfl he3
                    have hl := hs_lv hl (k := 0) rfl (nI_1 (k2 + 1))
                    exact ih2 (k2 + 1) (by omega) (by omega) H locs ls w (lv_sub hl [3, 4, 5, 6, 7, 8, 9, 10, 0] rfl)
                  · refine lv_iload hx hb dX1_slideToMeet_97 (lv_at hl 0 rfl) ?_
                    refine lv_istore_n (lv' := [(3, .int ((mk_w (va_up g (20 + k) (nI (k2 + 1))) n 1 n))), (10, .int ((mk_w (va_up g (20 + k) (nI (k2 + 1))) n 1 n))), (9, .int (g (20 + k))), (0, .ref mk), (1, .int (what)), (2, .int ((mk_sl1 g n k (mk_sl g n (min k n)).1 (mk_sl g n (min k n)).2 k2).1)), (4, .ref (ad 1)), (5, .int (6)), (6, .int (nI k)), (7, .ref (ad (2 + k))), (8, .int (nI (k2 + 1)))]) hx hb dX1_slideToMeet_99 rfl hl (by decide) rfl (fun ls hl => ?_)
                    refine lv_bipush (v := 9) hx hb dX1_slideToMeet_100 (by decide) ?_
                    refine lv_aload hx hb dX1_slideToMeet_102 (lv_at hl 9 rfl) ?_
                    refine mk_get X w hm hs hin hjk 0 (by decide) (List.mem_of_getElem? (i := 5) rfl) (Or.inl rfl) rfl dX1_slideToMeet_104 ?_
                    refine lv_imul hx hb dX1_slideToMeet_107 ?_
                    refine lv_iload hx hb dX1_slideToMeet_108 (lv_at hl 10 rfl) ?_
                    refine lv_iadd hx hb dX1_slideToMeet_110 ?_
                    refine lv_istore_n (lv' := [(2, .int (((9 * nI k) + nI (k2 + 1)))), (3, .int ((mk_w (va_up g (20 + k) (nI (k2 + 1))) n 1 n))), (10, .int ((mk_w (va_up g (20 + k) (nI (k2 + 1))) n 1 n))), (9, .int (g (20 + k))), (0, .ref mk), (1, .int (what)), (4, .ref (ad 1)), (5, .int (6)), (6, .int (nI k)), (7, .ref (ad (2 + k))), (8, .int (nI (k2 + 1)))]) hx hb dX1_slideToMeet_111 rfl hl (by decide) rfl (fun ls hl => ?_)
                    refine lv_iinc (v := nI (k2 + 1) + 1) (lv' := [(8, .int (nI (k2 + 1) + 1)), (2, .int (((9 * nI k) + nI (k2 + 1)))), (3, .int ((mk_w (va_up g (20 + k) (nI (k2 + 1))) n 1 n))), (10, .int ((mk_w (va_up g (20 + k) (nI (k2 + 1))) n 1 n))), (9, .int (g (20 + k))), (0, .ref mk), (1, .int (what)), (4, .ref (ad 1)), (5, .int (6)), (6, .int (nI k)), (7, .ref (ad (2 + k)))]) hx hb dX1_slideToMeet_112 hl (k := 10) rfl rfl (by decide) rfl (fun ls hl => ?_)
                    refine lv_goto (tgt := 37) hx hb dX1_slideToMeet_115 (by decide) ?_
                    have he2 : ((9 * nI k) + nI (k2 + 1)) = (mk_sl1 g n k (mk_sl g n (min k n)).1 (mk_sl g n (min k n)).2 (k2 + 1)).1 := by (try simp only [← Int32.not_lt, Classical.not_not] at c_94); simp [mk_sl1, hq57, c_94]
                    have hl := hs_lv hl (k := 1) rfl he2
                    have he3 : (mk_w (va_up g (20 + k) (nI (k2 + 1))) n 1 n) = (mk_sl1 g n k (mk_sl g n (min k n)).1 (mk_sl g n (min k n)).2 (k2 + 1)).2 := by (try simp only [← Int32.not_lt, Classical.not_not] at c_94); simp [mk_sl1, hq57, c_94]
                    have hl := hs_lv hl (k := 2) rfl he3
                    have hl := hs_lv hl (k := 0) rfl (nI_1 (k2 + 1))
                    exact ih2 (k2 + 1) (by omega) (by omega) H locs ls w (lv_sub hl [5, 6, 1, 2, 7, 8, 9, 10, 0] rfl)
                · have hjq57 : jq57 < n := mk_std_lt hq57
                  refine lv_ifnonnull (tgt := 112) hx hb dX1_slideToMeet_60 (by decide) ?_
                  refine lv_iinc (v := nI (k2 + 1) + 1) (lv' := [(8, .int (nI (k2 + 1) + 1)), (0, .ref mk), (1, .int (what)), (2, .int ((mk_sl1 g n k (mk_sl g n (min k n)).1 (mk_sl g n (min k n)).2 k2).1)), (3, .int ((mk_sl1 g n k (mk_sl g n (min k n)).1 (mk_sl g n (min k n)).2 k2).2)), (4, .ref (ad 1)), (5, .int (6)), (6, .int (nI k)), (7, .ref (ad (2 + k)))]) hx hb dX1_slideToMeet_112 hl (k := 8) rfl rfl (by decide) rfl (fun ls hl => ?_)
                  refine lv_goto (tgt := 37) hx hb dX1_slideToMeet_115 (by decide) ?_
                  have he2 : ((mk_sl1 g n k (mk_sl g n (min k n)).1 (mk_sl g n (min k n)).2 k2).1) = (mk_sl1 g n k (mk_sl g n (min k n)).1 (mk_sl g n (min k n)).2 (k2 + 1)).1 := by (try simp only [← Int32.not_lt, Classical.not_not] at hl); simp [mk_sl1, hq57]
                  have hl := hs_lv hl (k := 3) rfl he2
                  have he3 : ((mk_sl1 g n k (mk_sl g n (min k n)).1 (mk_sl g n (min k n)).2 k2).2) = (mk_sl1 g n k (mk_sl g n (min k n)).1 (mk_sl g n (min k n)).2 (k2 + 1)).2 := by (try simp only [← Int32.not_lt, Classical.not_not] at hl); simp [mk_sl1, hq57]
                  have hl := hs_lv hl (k := 4) rfl he3
                  have hl := hs_lv hl (k := 0) rfl (nI_1 (k2 + 1))
                  exact ih2 (k2 + 1) (by omega) (by omega) H locs ls w (lv_sub hl [1, 2, 3, 4, 5, 6, 7, 8, 0] rfl)
          exact loop2 9 0 (by omega) (by omega) H locs ls w (lv_sub hl [2, 3, 4, 5, 6, 7, 8, 1, 0] rfl)
        · refine lv_astoreN (lv' := [(7, .null), (0, .ref mk), (1, .int (what)), (2, .int ((mk_sl g n (min k n)).1)), (3, .int ((mk_sl g n (min k n)).2)), (4, .ref (ad 1)), (5, .int (6)), (6, .int (nI k))]) hx hb dX1_slideToMeet_32 hl (by decide) rfl (fun ls hl => ?_)
          refine lv_iconst (v := 1) hx hb dX1_slideToMeet_34 (by decide) ?_
          refine lv_istore (lv' := [(8, .int (1)), (7, .null), (0, .ref mk), (1, .int (what)), (2, .int ((mk_sl g n (min k n)).1)), (3, .int ((mk_sl g n (min k n)).2)), (4, .ref (ad 1)), (5, .int (6)), (6, .int (nI k))]) hx hb dX1_slideToMeet_35 hl (by decide) rfl (fun ls hl => ?_)
          have loop2 : ∀ (n0 k2 : Nat), k2 ≤ 8 → 8 + 1 ≤ k2 + n0 → ∀ (H : Heap) (locs : List Loc) (ls : Array Slot), hg_W D b0 L (mk_F D f mk ad n g) s.heap H locs → lv_has ls 11 [(0, .ref mk), (1, .int (what)), (2, .int ((mk_sl g n (min k n)).1)), (3, .int ((mk_sl g n (min k n)).2)), (4, .ref (ad 1)), (5, .int (6)), (6, .int (nI k)), (7, .null), (8, .int (nI (k2 + 1)))] → W p l e ({ frames := 6, cells := 0, slots := 0, locals := 142 }) s m args below meth c H locs 0 0 Q (F0 m 37 ls []) := by
            intro n0
            induction n0 with
            | zero =>
              intro k2 h1 h2
              exact absurd h2 (by omega)
            | succ n0 ih2 =>
              intro k2 hk hn0 H locs ls w hl
              refine lv_iload hx hb dX1_slideToMeet_37 (lv_at hl 8 rfl) ?_
              refine lv_bipush (v := 8) hx hb dX1_slideToMeet_39 (by decide) ?_
              refine lv_icmp_gt (tgt := 118) hx hb dX1_slideToMeet_41 (by decide) (fun c_41 => ?_) (fun c_41 => ?_)
              · have hk2 : 8 = k2 := by
                  rcases Nat.lt_or_ge k2 8 with q | q
                  · exact absurd c_41 (nI_nlt (a := 8) (b := (k2 + 1)) (by omega) (by omega))
                  · omega
                subst hk2
                refine lv_iinc (v := nI k + 1) (lv' := [(6, .int (nI k + 1)), (0, .ref mk), (1, .int (what)), (2, .int ((mk_sl g n (min k n)).1)), (3, .int ((mk_sl g n (min k n)).2)), (4, .ref (ad 1)), (5, .int (6)), (7, .null), (8, .int (nI (8 + 1)))]) hx hb dX1_slideToMeet_118 hl (k := 6) rfl rfl (by decide) rfl (fun ls hl => ?_)
                refine lv_goto (tgt := 20) hx hb dX1_slideToMeet_121 (by decide) ?_
                have he2 : ((mk_sl g n (min k n)).1) = (mk_sl g n (min (k + 1) n)).1 := by rw [mk_sl_0 hjk]
                have hl := hs_lv hl (k := 3) rfl he2
                have he3 : ((mk_sl g n (min k n)).2) = (mk_sl g n (min (k + 1) n)).2 := by rw [mk_sl_0 hjk]
                have hl := hs_lv hl (k := 4) rfl he3
                have hl := hs_lv hl (k := 0) rfl (nI_1 k)
                exact ih (k + 1) (by omega) (by omega) H locs ls w (lv_sub hl [1, 2, 3, 4, 5, 6, 0] rfl)
              · have hk2l : k2 < 8 := by
                  rcases Nat.lt_or_ge k2 8 with q | q
                  · exact q
                  · exact absurd (nI_lt (a := 8) (b := (k2 + 1)) (by omega) (by omega)) c_41
                refine lv_aloadN hx hb dX1_slideToMeet_44 (lv_at hl 7 rfl) ?_
                refine lv_ifnullN (tgt := 112) hx hb dX1_slideToMeet_46 (by decide) ?_
                refine lv_iinc (v := nI (k2 + 1) + 1) (lv' := [(8, .int (nI (k2 + 1) + 1)), (0, .ref mk), (1, .int (what)), (2, .int ((mk_sl g n (min k n)).1)), (3, .int ((mk_sl g n (min k n)).2)), (4, .ref (ad 1)), (5, .int (6)), (6, .int (nI k)), (7, .null)]) hx hb dX1_slideToMeet_112 hl (k := 8) rfl rfl (by decide) rfl (fun ls hl => ?_)
                refine lv_goto (tgt := 37) hx hb dX1_slideToMeet_115 (by decide) ?_
                have hl := hs_lv hl (k := 0) rfl (nI_1 (k2 + 1))
                exact ih2 (k2 + 1) (by omega) (by omega) H locs ls w (lv_sub hl [1, 2, 3, 4, 5, 6, 7, 8, 0] rfl)
          exact loop2 9 0 (by omega) (by omega) H locs ls w (lv_sub hl [2, 3, 4, 5, 6, 7, 8, 1, 0] rfl)
  exact loop 7 0 (by omega) (by omega) H locs ls w (by rw [show min 0 n = 0 by omega]; exact lv_sub hl [5, 6, 4, 3, 2, 1, 0] rfl)
set_option maxRecDepth 100000 in
set_option maxHeartbeats 4000000 in
theorem c_X1_fewestGirls (l : Launch) (D : va_G) (b0 : Nat) (L : List Nat) (f : Nat → va_E) (mk : Nat) (ad : Nat → Nat) (n : Nat) (g : Nat → Int32) (hm : mk_ok L mk ad n) (hs : mk_sr g n) (nr : Nat) (ht : mk_t g nr) (a b : Nat) (ha : a < n) (hb0 : b < n) (hab : a ≠ b) (what : Int32) : hg_Fi l yX1_fewestGirls wsX1_fewestGirls ({ frames := 5, cells := 0, slots := 0, locals := 112 }) D b0 L (mk_F D f mk ad n g) [.ref mk, .ref (ad (2 + a)), .ref (ad (2 + b)), .int (what)] (mk_ev g n a b what 19) (mk_F D f mk ad n g) := by
  refine hg_in_i (cc := cX1_fewestGirls) (nL := 10) (by decide) rfl (Nat.le_of_ble_eq_true rfl) (fun p e s m args below meth c R Q X hR hend H locs ls w hl => ?_)
  subst hR
  obtain ⟨hx, hb, hml, hown, hts⟩ := id X.1
  have hin : mk_in wsX1_fewestGirls := ⟨fun w h => List.mem_cons_of_mem _ (List.mem_append_left _ (List.mem_append_left _ (List.mem_append_left _ (List.mem_append_left _ (List.mem_append_left _ (List.mem_append_right _ h)))))), fun w h => List.mem_cons_of_mem _ (List.mem_append_left _ (List.mem_append_left _ (List.mem_append_left _ (List.mem_append_left _ (List.mem_append_right _ h))))), fun w h => List.mem_cons_of_mem _ (List.mem_append_left _ (List.mem_append_left _ (List.mem_append_left _ (List.mem_append_right _ h)))), fun w h => List.mem_cons_of_mem _ (List.mem_append_left _ (List.mem_append_left _ (List.mem_append_right _ h))), fun w h => List.mem_cons_of_mem _ (List.mem_append_left _ (List.mem_append_right _ h))⟩
  have hin3 : ∀ w ∈ wsX30, w ∈ wsX1_fewestGirls := fun w h => List.mem_cons_of_mem _ (List.mem_append_right _ h)
  have hl : lv_has ls 10 [(0, .ref mk), (1, .ref (ad (2 + a))), (2, .ref (ad (2 + b))), (3, .int (what))] := hl
  have hn6 := hs.2.1
  refine lv_aload_n hx hb dX1_fewestGirls_0 rfl (lv_at hl 1 rfl) ?_
  refine mk_get X w hm hs hin ha 5 (by decide) (List.mem_of_getElem? (i := 1) rfl) (Or.inl rfl) rfl dX1_fewestGirls_1 ?_
  refine lv_istore (lv' := [(4, .int (g (38 + a))), (0, .ref mk), (1, .ref (ad (2 + a))), (2, .ref (ad (2 + b))), (3, .int (what))]) hx hb dX1_fewestGirls_4 hl (by decide) rfl (fun ls hl => ?_)
  refine lv_aload_n hx hb dX1_fewestGirls_6 rfl (lv_at hl 3 rfl) ?_
  refine mk_get X w hm hs hin hb0 5 (by decide) (List.mem_of_getElem? (i := 1) rfl) (Or.inl rfl) rfl dX1_fewestGirls_7 ?_
  refine lv_istore (lv' := [(5, .int (g (38 + b))), (4, .int (g (38 + a))), (0, .ref mk), (1, .ref (ad (2 + a))), (2, .ref (ad (2 + b))), (3, .int (what))]) hx hb dX1_fewestGirls_10 hl (by decide) rfl (fun ls hl => ?_)
  refine lv_ldc (v := (-1000000)) hx hb hown (hts _ (List.mem_of_getElem? (i := 2) rfl)) dX1_fewestGirls_12 ?_
  refine lv_istore (lv' := [(6, .int ((-1000000))), (5, .int (g (38 + b))), (4, .int (g (38 + a))), (0, .ref mk), (1, .ref (ad (2 + a))), (2, .ref (ad (2 + b))), (3, .int (what))]) hx hb dX1_fewestGirls_14 hl (by decide) rfl (fun ls hl => ?_)
  refine lv_iconst (v := 0) hx hb dX1_fewestGirls_16 (by decide) ?_
  refine lv_istore (lv' := [(7, .int (0)), (6, .int ((-1000000))), (5, .int (g (38 + b))), (4, .int (g (38 + a))), (0, .ref mk), (1, .ref (ad (2 + a))), (2, .ref (ad (2 + b))), (3, .int (what))]) hx hb dX1_fewestGirls_17 hl (by decide) rfl (fun ls hl => ?_)
  have loop : ∀ (n0 k : Nat), k ≤ 19 → 19 + 1 ≤ k + n0 → ∀ (u0 u1 : Int32), ∀ (H : Heap) (locs : List Loc) (ls : Array Slot), hg_W D b0 L (mk_F D f mk ad n (va_up (va_up g (38 + a) u0) (38 + b) u1)) s.heap H locs → lv_has ls 10 [(0, .ref mk), (1, .ref (ad (2 + a))), (2, .ref (ad (2 + b))), (3, .int (what)), (4, .int (g (38 + a))), (5, .int (g (38 + b))), (6, .int (mk_ev g n a b what k)), (7, .int (nI k))] → W p l e ({ frames := 5, cells := 0, slots := 0, locals := 112 }) s m args below meth c H locs 0 0 Q (F0 m 19 ls []) := by
    intro n0
    induction n0 with
    | zero =>
      intro k h1 h2
      exact absurd h2 (by omega)
    | succ n0 ih =>
      intro k hk hn0 u0 u1 H locs ls w hl
      refine lv_iload hx hb dX1_fewestGirls_19 (lv_at hl 7 rfl) ?_
      refine lv_bipush (v := 18) hx hb dX1_fewestGirls_21 (by decide) ?_
      refine lv_icmp_gt (tgt := 122) hx hb dX1_fewestGirls_23 (by decide) (fun c_23 => ?_) (fun c_23 => ?_)
      · have hk : 19 = k := by
          rcases Nat.lt_or_ge k 19 with q | q
          · exact absurd c_23 (nI_nlt (a := 18) (b := k) (by omega) (by omega))
          · omega
        subst hk
        refine lv_aload_n hx hb dX1_fewestGirls_122 rfl (lv_at hl 1 rfl) ?_
        refine lv_iload hx hb dX1_fewestGirls_123 (lv_at hl 4 rfl) ?_
        refine mk_put X w hm (mk_sr_up (by omega) (mk_sr_up (by omega) hs)) hin ha 5 (by decide) (List.mem_of_getElem? (i := 1) rfl) (fun q => absurd q (by decide)) dX1_fewestGirls_125 (fun H locs w => ?_)
        have w : hg_W D b0 L (mk_F D f mk ad n (va_up (va_up (va_up g (38 + a) u0) (38 + b) u1) (38 + a) (g (38 + a)))) s.heap H locs := w
        rw [mk_sw _ _ _ _ (by omega)] at w
        rw [hs_up_id] at w
        refine lv_aload_n hx hb dX1_fewestGirls_128 rfl (lv_at hl 2 rfl) ?_
        refine lv_iload hx hb dX1_fewestGirls_129 (lv_at hl 5 rfl) ?_
        refine mk_put X w hm (mk_sr_up (by omega) hs) hin hb0 5 (by decide) (List.mem_of_getElem? (i := 1) rfl) (fun q => absurd q (by decide)) dX1_fewestGirls_131 (fun H locs w => ?_)
        have w : hg_W D b0 L (mk_F D f mk ad n (va_up (va_up g (38 + b) u1) (38 + b) (g (38 + b)))) s.heap H locs := w
        rw [hs_uu] at w
        rw [hs_up_id] at w
        refine lv_iload hx hb dX1_fewestGirls_134 (lv_at hl 6 rfl) ?_
        exact hend H locs (mk_ev g n a b what 19) (L, mk_F D f mk ad n g) _ ls w ⟨rfl, rfl⟩ rfl dX1_fewestGirls_136
      · have hkl : k < 19 := by
          rcases Nat.lt_or_ge k 19 with q | q
          · exact q
          · exact absurd (nI_lt (a := 18) (b := k) (by omega) (by omega)) c_23
        refine lv_iload hx hb dX1_fewestGirls_26 (lv_at hl 6 rfl) ?_
        refine lv_ldc (v := (-1000000)) hx hb hown (hts _ (List.mem_of_getElem? (i := 2) rfl)) dX1_fewestGirls_28 ?_
        refine lv_icmp_ne (tgt := 122) hx hb dX1_fewestGirls_30 (by decide) (fun c_30 => ?_) (fun c_30 => ?_)
        · refine lv_aload_n hx hb dX1_fewestGirls_122 rfl (lv_at hl 1 rfl) ?_
          refine lv_iload hx hb dX1_fewestGirls_123 (lv_at hl 4 rfl) ?_
          refine mk_put X w hm (mk_sr_up (by omega) (mk_sr_up (by omega) hs)) hin ha 5 (by decide) (List.mem_of_getElem? (i := 1) rfl) (fun q => absurd q (by decide)) dX1_fewestGirls_125 (fun H locs w => ?_)
          have w : hg_W D b0 L (mk_F D f mk ad n (va_up (va_up (va_up g (38 + a) u0) (38 + b) u1) (38 + a) (g (38 + a)))) s.heap H locs := w
          rw [mk_sw _ _ _ _ (by omega)] at w
          rw [hs_up_id] at w
          refine lv_aload_n hx hb dX1_fewestGirls_128 rfl (lv_at hl 2 rfl) ?_
          refine lv_iload hx hb dX1_fewestGirls_129 (lv_at hl 5 rfl) ?_
          refine mk_put X w hm (mk_sr_up (by omega) hs) hin hb0 5 (by decide) (List.mem_of_getElem? (i := 1) rfl) (fun q => absurd q (by decide)) dX1_fewestGirls_131 (fun H locs w => ?_)
          have w : hg_W D b0 L (mk_F D f mk ad n (va_up (va_up g (38 + b) u1) (38 + b) (g (38 + b)))) s.heap H locs := w
          rw [hs_uu] at w
          rw [hs_up_id] at w
          refine lv_iload hx hb dX1_fewestGirls_134 (lv_at hl 6 rfl) ?_
          exact hend H locs (mk_ev g n a b what k) (L, mk_F D f mk ad n g) _ ls w ⟨(by rw [show 19 = k + (19 - k) by omega, mk_ev_up c_30]), rfl⟩ rfl dX1_fewestGirls_136
        · refine lv_bipush (v := 9) hx hb dX1_fewestGirls_33 (by decide) ?_
          refine lv_iload hx hb dX1_fewestGirls_35 (lv_at hl 7 rfl) ?_
          refine va_mmin hx hb (hml.trans hl.1.symm) hown (hts _ (List.mem_of_getElem? (i := 3) rfl)) (hts _ (List.mem_of_getElem? (i := 4) rfl)) (hts _ (List.mem_of_getElem? (i := 5) rfl)) (hts _ (List.mem_of_getElem? (i := 6) rfl)) (Nat.le_of_ble_eq_true rfl) (Nat.le_of_ble_eq_true rfl) (Nat.zero_le _) (Nat.zero_le _) dX1_fewestGirls_37 ?_
          refine lv_istore (lv' := [(8, .int ((if nI k < 9 then nI k else 9))), (0, .ref mk), (1, .ref (ad (2 + a))), (2, .ref (ad (2 + b))), (3, .int (what)), (4, .int (g (38 + a))), (5, .int (g (38 + b))), (6, .int (mk_ev g n a b what k)), (7, .int (nI k))]) hx hb dX1_fewestGirls_40 hl (by decide) rfl (fun ls hl => ?_)
          refine lv_iconst (v := 0) hx hb dX1_fewestGirls_42 (by decide) ?_
          refine lv_iload hx hb dX1_fewestGirls_43 (lv_at hl 8 rfl) ?_
          refine lv_bipush (v := 9) hx hb dX1_fewestGirls_45 (by decide) ?_
          refine lv_isub hx hb dX1_fewestGirls_47 ?_
          refine va_mmax hx hb (hml.trans hl.1.symm) hown (hts _ (List.mem_of_getElem? (i := 7) rfl)) (hts _ (List.mem_of_getElem? (i := 8) rfl)) (hts _ (List.mem_of_getElem? (i := 5) rfl)) (hts _ (List.mem_of_getElem? (i := 9) rfl)) (Nat.le_of_ble_eq_true rfl) (Nat.le_of_ble_eq_true rfl) (Nat.zero_le _) (Nat.zero_le _) dX1_fewestGirls_48 ?_
          refine lv_istore (lv' := [(9, .int ((if 0 < (nI k - 9) then (nI k - 9) else 0))), (8, .int ((if nI k < 9 then nI k else 9))), (0, .ref mk), (1, .ref (ad (2 + a))), (2, .ref (ad (2 + b))), (3, .int (what)), (4, .int (g (38 + a))), (5, .int (g (38 + b))), (6, .int (mk_ev g n a b what k)), (7, .int (nI k))]) hx hb dX1_fewestGirls_51 hl (by decide) rfl (fun ls hl => ?_)
          have hl := hs_lv hl (k := 1) rfl (mk_ev_a k (by omega)).1
          have hl := hs_lv hl (k := 0) rfl (mk_ev_a k (by omega)).2
          have hl := hs_lv hl (k := 8) rfl (show mk_ev g n a b what k = mk_ev1 g n a b what k (k - 9) 0 from c_30)
          have loop2 : ∀ (n0 k2 : Nat), k2 ≤ (min 9 k + 1 - (k - 9)) → (min 9 k + 1 - (k - 9)) + 1 ≤ k2 + n0 → ∀ (u0 u1 : Int32), ∀ (H : Heap) (locs : List Loc) (ls : Array Slot), hg_W D b0 L (mk_F D f mk ad n (va_up (va_up g (38 + a) u0) (38 + b) u1)) s.heap H locs → lv_has ls 10 [(0, .ref mk), (1, .ref (ad (2 + a))), (2, .ref (ad (2 + b))), (3, .int (what)), (4, .int (g (38 + a))), (5, .int (g (38 + b))), (6, .int (mk_ev1 g n a b what k (k - 9) k2)), (7, .int (nI k)), (8, .int (nI (min 9 k))), (9, .int (nI (k - 9 + k2)))] → W p l e ({ frames := 5, cells := 0, slots := 0, locals := 112 }) s m args below meth c H locs 0 0 Q (F0 m 53 ls []) := by
            intro n0
            induction n0 with
            | zero =>
              intro k2 h1 h2
              exact absurd h2 (by omega)
            | succ n0 ih2 =>
              intro k2 hk hn0 u0 u1 H locs ls w hl
              refine lv_iload hx hb dX1_fewestGirls_53 (lv_at hl 9 rfl) ?_
              refine lv_iload hx hb dX1_fewestGirls_55 (lv_at hl 8 rfl) ?_
              refine lv_icmp_gt (tgt := 116) hx hb dX1_fewestGirls_57 (by decide) (fun c_57 => ?_) (fun c_57 => ?_)
              · have hk2 : (min 9 k + 1 - (k - 9)) = k2 := by
                  rcases Nat.lt_or_ge k2 (min 9 k + 1 - (k - 9)) with q | q
                  · exact absurd c_57 (nI_nlt (a := (min 9 k)) (b := (k - 9 + k2)) (by omega) (by omega))
                  · omega
                subst hk2
                refine lv_iinc (v := nI k + 1) (lv' := [(7, .int (nI k + 1)), (0, .ref mk), (1, .ref (ad (2 + a))), (2, .ref (ad (2 + b))), (3, .int (what)), (4, .int (g (38 + a))), (5, .int (g (38 + b))), (6, .int (mk_ev1 g n a b what k (k - 9) (min 9 k + 1 - (k - 9)))), (8, .int (nI (min 9 k))), (9, .int (nI (k - 9 + (min 9 k + 1 - (k - 9)))))]) hx hb dX1_fewestGirls_116 hl (k := 7) rfl rfl (by decide) rfl (fun ls hl => ?_)
                refine lv_goto (tgt := 19) hx hb dX1_fewestGirls_119 (by decide) ?_
                have he6 : (mk_ev1 g n a b what k (k - 9) (min 9 k + 1 - (k - 9))) = mk_ev g n a b what (k + 1) := by exact mk_ev_s c_30 (by omega) (Or.inl rfl)
                have hl := hs_lv hl (k := 7) rfl he6
                have hl := hs_lv hl (k := 0) rfl (nI_1 k)
                exact ih (k + 1) (by omega) (by omega) _ _ H locs ls w (lv_sub hl [1, 2, 3, 4, 5, 6, 7, 0] rfl)
              · have hk2l : k2 < (min 9 k + 1 - (k - 9)) := by
                  rcases Nat.lt_or_ge k2 (min 9 k + 1 - (k - 9)) with q | q
                  · exact q
                  · exact absurd (nI_lt (a := (min 9 k)) (b := (k - 9 + k2)) (by omega) (by omega)) c_57
                refine lv_iload hx hb dX1_fewestGirls_60 (lv_at hl 6 rfl) ?_
                refine lv_ldc (v := (-1000000)) hx hb hown (hts _ (List.mem_of_getElem? (i := 2) rfl)) dX1_fewestGirls_62 ?_
                refine lv_icmp_ne (tgt := 116) hx hb dX1_fewestGirls_64 (by decide) (fun c_64 => ?_) (fun c_64 => ?_)
                · refine lv_iinc (v := nI k + 1) (lv' := [(7, .int (nI k + 1)), (0, .ref mk), (1, .ref (ad (2 + a))), (2, .ref (ad (2 + b))), (3, .int (what)), (4, .int (g (38 + a))), (5, .int (g (38 + b))), (6, .int (mk_ev1 g n a b what k (k - 9) k2)), (8, .int (nI (min 9 k))), (9, .int (nI (k - 9 + k2)))]) hx hb dX1_fewestGirls_116 hl (k := 7) rfl rfl (by decide) rfl (fun ls hl => ?_)
                  refine lv_goto (tgt := 19) hx hb dX1_fewestGirls_119 (by decide) ?_
                  have he6 : (mk_ev1 g n a b what k (k - 9) k2) = mk_ev g n a b what (k + 1) := by exact mk_ev_s c_30 (by omega) (Or.inr c_64)
                  have hl := hs_lv hl (k := 7) rfl he6
                  have hl := hs_lv hl (k := 0) rfl (nI_1 k)
                  exact ih (k + 1) (by omega) (by omega) _ _ H locs ls w (lv_sub hl [1, 2, 3, 4, 5, 6, 7, 0] rfl)
                · refine lv_aload_n hx hb dX1_fewestGirls_67 rfl (lv_at hl 1 rfl) ?_
                  refine lv_iload hx hb dX1_fewestGirls_68 (lv_at hl 4 rfl) ?_
                  refine lv_iload hx hb dX1_fewestGirls_70 (lv_at hl 9 rfl) ?_
                  refine lv_iadd hx hb dX1_fewestGirls_72 ?_
                  refine mk_put X w hm (mk_sr_up (by omega) (mk_sr_up (by omega) hs)) hin ha 5 (by decide) (List.mem_of_getElem? (i := 1) rfl) (fun q => absurd q (by decide)) dX1_fewestGirls_73 (fun H locs w => ?_)
                  have w : hg_W D b0 L (mk_F D f mk ad n (va_up (va_up (va_up g (38 + a) u0) (38 + b) u1) (38 + a) (g (38 + a) + nI (k - 9 + k2)))) s.heap H locs := w
                  rw [mk_sw _ _ _ _ (by omega)] at w
                  refine lv_aload_n hx hb dX1_fewestGirls_76 rfl (lv_at hl 2 rfl) ?_
                  refine lv_iload hx hb dX1_fewestGirls_77 (lv_at hl 5 rfl) ?_
                  refine lv_iload hx hb dX1_fewestGirls_79 (lv_at hl 7 rfl) ?_
                  refine lv_iadd hx hb dX1_fewestGirls_81 ?_
                  refine lv_iload hx hb dX1_fewestGirls_82 (lv_at hl 9 rfl) ?_
                  refine lv_isub hx hb dX1_fewestGirls_84 ?_
                  refine mk_put X w hm (mk_sr_up (by omega) (mk_sr_up (by omega) hs)) hin hb0 5 (by decide) (List.mem_of_getElem? (i := 1) rfl) (fun q => absurd q (by decide)) dX1_fewestGirls_85 (fun H locs w => ?_)
                  have w : hg_W D b0 L (mk_F D f mk ad n (va_up (va_up (va_up g (38 + a) (g (38 + a) + nI (k - 9 + k2))) (38 + b) u1) (38 + b) ((g (38 + b) + nI k) - nI (k - 9 + k2)))) s.heap H locs := w
                  rw [hs_uu] at w
                  refine lv_aload_n hx hb dX1_fewestGirls_88 rfl (lv_at hl 0 rfl) ?_
                  refine lv_aload_n hx hb dX1_fewestGirls_89 rfl (lv_at hl 1 rfl) ?_
                  refine lv_aload_n hx hb dX1_fewestGirls_90 rfl (lv_at hl 2 rfl) ?_
                  refine hg_viF (r := (mk_meets (va_up (va_up g (38 + a) (g (38 + a) + nI (k - 9 + k2))) (38 + b) ((g (38 + b) + nI k) - nI (k - 9 + k2))) n a b)) (As := [.ref (ad (2 + a)), .ref (ad (2 + b))]) (rest := []) X w (c_X3_meets l D b0 L f mk ad n (va_up (va_up g (38 + a) (g (38 + a) + nI (k - 9 + k2))) (38 + b) ((g (38 + b) + nI k) - nI (k - 9 + k2))) hm (mk_sr_up (by omega) (mk_sr_up (by omega) hs)) nr (mk_t_up (by omega) (mk_t_up (by omega) ht)) a b ha hb0) (cwV 2 hts gX1_fewestGirls_X3_meets rfl rfl rfl hdX3_meets ⟨Nat.le_of_ble_eq_true rfl, Nat.le_of_ble_eq_true rfl⟩) hm.1 (mk_at0 D f mk ad n _) rfl rfl rfl hl.1 rfl (Nat.le_of_ble_eq_true rfl) dX1_fewestGirls_91 ⟨Nat.zero_le _, Nat.zero_le _⟩ (fun H locs w => ?_)
                  refine lv_if_eq (tgt := 110) hx hb dX1_fewestGirls_94 (by decide) (fun c_94 => ?_) (fun c_94 => ?_)
                  · refine lv_iinc (v := nI (k - 9 + k2) + 1) (lv' := [(9, .int (nI (k - 9 + k2) + 1)), (0, .ref mk), (1, .ref (ad (2 + a))), (2, .ref (ad (2 + b))), (3, .int (what)), (4, .int (g (38 + a))), (5, .int (g (38 + b))), (6, .int (mk_ev1 g n a b what k (k - 9) k2)), (7, .int (nI k)), (8, .int (nI (min 9 k)))]) hx hb dX1_fewestGirls_110 hl (k := 9) rfl rfl (by decide) rfl (fun ls hl => ?_)
                    refine lv_goto (tgt := 53) hx hb dX1_fewestGirls_113 (by decide) ?_
                    have he6 : (mk_ev1 g n a b what k (k - 9) k2) = mk_ev1 g n a b what k (k - 9) (k2 + 1) := by (try simp only [lg_cmp_le, lg_cmp_ge, lg_cmp_lt, lg_cmp_gt, ← Int32.not_lt, ← Int64.not_lt, Classical.not_not] at c_23 c_30 c_57 c_64 c_94); first | (simp [mk_ev1, hs_evg, c_23, c_30, c_57, c_64, c_94]; done) | (simp [mk_ev1, hs_evg, c_23, eq_true c_30, c_57, eq_true c_64, eq_true c_94]; done) | (exfalso; clear hend ih; simp_all; done)
                    have hl := hs_lv hl (k := 7) rfl he6
                    have he9 : (nI (k - 9 + k2) + 1) = nI (k - 9 + (k2 + 1)) := by exact nI_1 (k - 9 + k2)
                    have hl := hs_lv hl (k := 0) rfl he9
                    exact ih2 (k2 + 1) (by omega) (by omega) _ _ H locs ls w (lv_sub hl [1, 2, 3, 4, 5, 6, 7, 8, 9, 0] rfl)
                  · refine lv_iload_n hx hb dX1_fewestGirls_97 rfl (lv_at hl 3 rfl) ?_
                    refine lv_if_ne (tgt := 106) hx hb dX1_fewestGirls_98 (by decide) (fun c_98 => ?_) (fun c_98 => ?_)
                    · refine lv_iload hx hb dX1_fewestGirls_106 (lv_at hl 9 rfl) ?_
                      refine lv_istore (lv' := [(6, .int (nI (k - 9 + k2))), (0, .ref mk), (1, .ref (ad (2 + a))), (2, .ref (ad (2 + b))), (3, .int (what)), (4, .int (g (38 + a))), (5, .int (g (38 + b))), (7, .int (nI k)), (8, .int (nI (min 9 k))), (9, .int (nI (k - 9 + k2)))]) hx hb dX1_fewestGirls_108 hl (by decide) rfl (fun ls hl => ?_)
                      refine lv_iinc (v := nI (k - 9 + k2) + 1) (lv' := [(9, .int (nI (k - 9 + k2) + 1)), (6, .int (nI (k - 9 + k2))), (0, .ref mk), (1, .ref (ad (2 + a))), (2, .ref (ad (2 + b))), (3, .int (what)), (4, .int (g (38 + a))), (5, .int (g (38 + b))), (7, .int (nI k)), (8, .int (nI (min 9 k)))]) hx hb dX1_fewestGirls_110 hl (k := 9) rfl rfl (by decide) rfl (fun ls hl => ?_)
                      refine lv_goto (tgt := 53) hx hb dX1_fewestGirls_113 (by decide) ?_
                      have he6 : (nI (k - 9 + k2)) = mk_ev1 g n a b what k (k - 9) (k2 + 1) := by (try simp only [lg_cmp_le, lg_cmp_ge, lg_cmp_lt, lg_cmp_gt, ← Int32.not_lt, ← Int64.not_lt, Classical.not_not] at c_23 c_30 c_57 c_64 c_94 c_98); first | (simp [mk_ev1, hs_evg, c_23, c_30, c_57, c_64, c_94, c_98]; done) | (simp [mk_ev1, hs_evg, c_23, eq_true c_30, c_57, eq_true c_64, c_94, c_98]; done) | (exfalso; clear hend ih; simp_all; done)
                      have hl := hs_lv hl (k := 1) rfl he6
                      have he9 : (nI (k - 9 + k2) + 1) = nI (k - 9 + (k2 + 1)) := by exact nI_1 (k - 9 + k2)
                      have hl := hs_lv hl (k := 0) rfl he9
                      exact ih2 (k2 + 1) (by omega) (by omega) _ _ H locs ls w (lv_sub hl [2, 3, 4, 5, 6, 7, 1, 8, 9, 0] rfl)
                    · refine lv_iload hx hb dX1_fewestGirls_101 (lv_at hl 7 rfl) ?_
                      refine lv_goto (tgt := 108) hx hb dX1_fewestGirls_103 (by decide) ?_
                      refine lv_istore (lv' := [(6, .int (nI k)), (0, .ref mk), (1, .ref (ad (2 + a))), (2, .ref (ad (2 + b))), (3, .int (what)), (4, .int (g (38 + a))), (5, .int (g (38 + b))), (7, .int (nI k)), (8, .int (nI (min 9 k))), (9, .int (nI (k - 9 + k2)))]) hx hb dX1_fewestGirls_108 hl (by decide) rfl (fun ls hl => ?_)
                      refine lv_iinc (v := nI (k - 9 + k2) + 1) (lv' := [(9, .int (nI (k - 9 + k2) + 1)), (6, .int (nI k)), (0, .ref mk), (1, .ref (ad (2 + a))), (2, .ref (ad (2 + b))), (3, .int (what)), (4, .int (g (38 + a))), (5, .int (g (38 + b))), (7, .int (nI k)), (8, .int (nI (min 9 k)))]) hx hb dX1_fewestGirls_110 hl (k := 9) rfl rfl (by decide) rfl (fun ls hl => ?_)
                      refine lv_goto (tgt := 53) hx hb dX1_fewestGirls_113 (by decide) ?_
                      have he6 : (nI k) = mk_ev1 g n a b what k (k - 9) (k2 + 1) := by (try simp only [lg_cmp_le, lg_cmp_ge, lg_cmp_lt, lg_cmp_gt, ← Int32.not_lt, ← Int64.not_lt, Classical.not_not] at c_23 c_30 c_57 c_64 c_94 c_98); first | (simp [mk_ev1, hs_evg, c_23, c_30, c_57, c_64, c_94, c_98]; done) | (simp [mk_ev1, hs_evg, c_23, eq_true c_30, c_57, eq_true c_64, c_94, eq_true c_98]; done) | (exfalso; clear hend ih; simp_all; done)
                      have hl := hs_lv hl (k := 1) rfl he6
                      have he9 : (nI (k - 9 + k2) + 1) = nI (k - 9 + (k2 + 1)) := by exact nI_1 (k - 9 + k2)
                      have hl := hs_lv hl (k := 0) rfl he9
                      exact ih2 (k2 + 1) (by omega) (by omega) _ _ H locs ls w (lv_sub hl [2, 3, 4, 5, 6, 7, 1, 8, 9, 0] rfl)
          exact loop2 (min 9 k + 1 - (k - 9) + 1) 0 (by omega) (by omega) _ _ H locs ls w (lv_sub hl [2, 3, 4, 5, 6, 7, 8, 9, 1, 0] rfl)
  exact loop 20 0 (by omega) (by omega) (g (38 + a)) (g (38 + b)) H locs ls (by rw [hs_up_id, hs_up_id]; exact w) (lv_sub hl [4, 5, 6, 7, 3, 2, 1, 0] rfl)
set_option maxRecDepth 100000 in
set_option maxHeartbeats 4000000 in
theorem c_X1_takeOff (l : Launch) (D : va_G) (b0 : Nat) (L : List Nat) (f : Nat → va_E) (mk : Nat) (ad : Nat → Nat) (n : Nat) (g : Nat → Int32) (hm : mk_ok L mk ad n) (hs : mk_sr g n)  (to tk : Int32) : hg_Fv l yX1_takeOff wsX1_takeOff ({ frames := 0, cells := 0, slots := 0, locals := 0 }) D b0 L (mk_F D f mk ad n g) [.ref mk, .int (to), .int (tk)] (mk_F D f mk ad n (mk_tk g to tk n)) := by
  refine hg_in_v (cc := cX1_takeOff) (nL := 7) (by decide) rfl (Nat.le_of_ble_eq_true rfl) (fun p e s m args below meth c R Q X _ hR hend H locs ls w hl => ?_)
  subst hR
  obtain ⟨hx, hb, hml, hown, hts⟩ := id X.1
  have hin : mk_in wsX1_takeOff := ⟨fun w h => List.mem_cons_of_mem _ (List.mem_append_left _ (List.mem_append_left _ (List.mem_append_left _ (List.mem_append_left _ (List.mem_append_right _ h))))), fun w h => List.mem_cons_of_mem _ (List.mem_append_left _ (List.mem_append_left _ (List.mem_append_left _ (List.mem_append_right _ h)))), fun w h => List.mem_cons_of_mem _ (List.mem_append_left _ (List.mem_append_left _ (List.mem_append_right _ h))), fun w h => List.mem_cons_of_mem _ (List.mem_append_left _ (List.mem_append_right _ h)), fun w h => List.mem_cons_of_mem _ (List.mem_append_right _ h)⟩
  have hin3 : ∀ w ∈ wsX30, w ∈ wsX1_takeOff := fun w h => List.mem_cons_of_mem _ (List.mem_append_left _ (List.mem_append_left _ (List.mem_append_left _ (List.mem_append_left _ (List.mem_append_left _ (List.mem_append_right _ h))))))
  have hl : lv_has ls 7 [(0, .ref mk), (1, .int (to)), (2, .int (tk))] := hl
  have hn6 := hs.2.1
  refine lv_aload_n hx hb dX1_takeOff_0 rfl (lv_at hl 0 rfl) ?_
  refine mk_getM X w hm hin3 5 (by decide) (List.mem_of_getElem? (i := 1) rfl) rfl dX1_takeOff_1 ?_
  refine lv_astore_n (lv' := [(3, .ref (ad 1)), (0, .ref mk), (1, .int (to)), (2, .int (tk))]) hx hb dX1_takeOff_4 rfl hl (by decide) rfl (fun ls hl => ?_)
  refine lv_aload_n hx hb dX1_takeOff_5 rfl (lv_at hl 0 rfl) ?_
  refine mk_len X w hm dX1_takeOff_6 ?_
  refine lv_istore (lv' := [(4, .int (6)), (3, .ref (ad 1)), (0, .ref mk), (1, .int (to)), (2, .int (tk))]) hx hb dX1_takeOff_7 hl (by decide) rfl (fun ls hl => ?_)
  refine lv_iconst (v := 0) hx hb dX1_takeOff_9 (by decide) ?_
  refine lv_istore (lv' := [(5, .int (0)), (4, .int (6)), (3, .ref (ad 1)), (0, .ref mk), (1, .int (to)), (2, .int (tk))]) hx hb dX1_takeOff_10 hl (by decide) rfl (fun ls hl => ?_)
  have loop : ∀ (n0 k : Nat), k ≤ 6 → 6 + 1 ≤ k + n0 → ∀ (H : Heap) (locs : List Loc) (ls : Array Slot), hg_W D b0 L (mk_F D f mk ad n (mk_tk g to tk (min k n))) s.heap H locs → lv_has ls 7 [(0, .ref mk), (1, .int (to)), (2, .int (tk)), (3, .ref (ad 1)), (4, .int (6)), (5, .int (nI k))] → W p l e ({ frames := 0, cells := 0, slots := 0, locals := 0 }) s m args below meth c H locs 0 0 Q (F0 m 12 ls []) := by
    intro n0
    induction n0 with
    | zero =>
      intro k h1 h2
      exact absurd h2 (by omega)
    | succ n0 ih =>
      intro k hk hn0 H locs ls w hl
      refine lv_iload hx hb dX1_takeOff_12 (lv_at hl 5 rfl) ?_
      refine lv_iload hx hb dX1_takeOff_14 (lv_at hl 4 rfl) ?_
      refine lv_icmp_ge (tgt := 72) hx hb dX1_takeOff_16 (by decide) (fun c_16 => ?_) (fun c_16 => ?_)
      · have hk : 6 = k := by
          rcases Nat.lt_or_ge k 6 with q | q
          · exact absurd c_16 (nI_ge (a := k) (b := 6) q (by omega))
          · omega
        subst hk
        exact hend H locs (L, mk_F D f mk ad n (mk_tk g to tk (min 6 n))) _ ls w (congrArg (fun z => (L, mk_F D f mk ad n z)) (by rw [show min 6 n = n by omega])) dX1_takeOff_72
      · have hkl : k < 6 := by
          rcases Nat.lt_or_ge k 6 with q | q
          · exact q
          · exact absurd (nI_le (a := 6) (b := k) q (by omega)) c_16
        refine lv_aload_n hx hb dX1_takeOff_19 rfl (lv_at hl 3 rfl) ?_
        refine lv_iload hx hb dX1_takeOff_20 (lv_at hl 5 rfl) ?_
        refine mk_ald X w hm k rfl (by omega) dX1_takeOff_22 (fun hjk => ?_) (fun hjk => ?_)
        · refine lv_astore (lv' := [(6, .ref (ad (2 + k))), (0, .ref mk), (1, .int (to)), (2, .int (tk)), (3, .ref (ad 1)), (4, .int (6)), (5, .int (nI k))]) hx hb dX1_takeOff_23 hl (by decide) rfl (fun ls hl => ?_)
          refine lv_aload hx hb dX1_takeOff_25 (lv_at hl 0 rfl) ?_
          refine lv_ifnull hx hb dX1_takeOff_27 ?_
          refine lv_iload_n hx hb dX1_takeOff_30 rfl (lv_at hl 2 rfl) ?_
          refine lv_aload hx hb dX1_takeOff_31 (lv_at hl 0 rfl) ?_
          refine mk_get X w hm (mk_tk_sr _ _ _ hs) hin hjk 0 (by decide) (List.mem_of_getElem? (i := 2) rfl) (Or.inl rfl) rfl dX1_takeOff_33 ?_
          refine lv_ishr hx hb dX1_takeOff_36 ?_
          refine lv_iconst (v := 1) hx hb dX1_takeOff_37 (by decide) ?_
          refine lv_iand hx hb dX1_takeOff_38 ?_
          refine lv_iconst (v := 1) hx hb dX1_takeOff_39 (by decide) ?_
          refine lv_icmp_ne (tgt := 66) hx hb dX1_takeOff_40 (by decide) (fun c_40 => ?_) (fun c_40 => ?_)
          · refine lv_iinc (v := nI k + 1) (lv' := [(5, .int (nI k + 1)), (6, .ref (ad (2 + k))), (0, .ref mk), (1, .int (to)), (2, .int (tk)), (3, .ref (ad 1)), (4, .int (6))]) hx hb dX1_takeOff_66 hl (k := 6) rfl rfl (by decide) rfl (fun ls hl => ?_)
            refine lv_goto (tgt := 12) hx hb dX1_takeOff_69 (by decide) ?_
            have hl := hs_lv hl (k := 0) rfl (nI_1 k)
            exact ih (k + 1) (by omega) (by omega) H locs ls (by rw [mk_tk_n hjk c_40] at w; exact w) (lv_sub hl [2, 3, 4, 5, 6, 0] rfl)
          · refine lv_aload hx hb dX1_takeOff_43 (lv_at hl 0 rfl) ?_
            refine lv_iload_n hx hb dX1_takeOff_45 rfl (lv_at hl 3 rfl) ?_
            refine lv_aload hx hb dX1_takeOff_46 (lv_at hl 0 rfl) ?_
            refine mk_get X w hm (mk_tk_sr _ _ _ hs) hin hjk 0 (by decide) (List.mem_of_getElem? (i := 2) rfl) (Or.inl rfl) rfl dX1_takeOff_48 ?_
            refine lv_ishr hx hb dX1_takeOff_51 ?_
            refine lv_iconst (v := 1) hx hb dX1_takeOff_52 (by decide) ?_
            refine lv_iand hx hb dX1_takeOff_53 ?_
            refine lv_iconst (v := 1) hx hb dX1_takeOff_54 (by decide) ?_
            refine lv_icmp_ne (tgt := 62) hx hb dX1_takeOff_55 (by decide) (fun c_55 => ?_) (fun c_55 => ?_)
            · refine lv_iconst (v := 0) hx hb dX1_takeOff_62 (by decide) ?_
              refine mk_put X w hm (mk_tk_sr _ _ _ hs) hin hjk 6 (by decide) (List.mem_of_getElem? (i := 3) rfl) (fun _ => by decide) dX1_takeOff_63 (fun H locs w => ?_)
              have w : hg_W D b0 L (mk_F D f mk ad n (va_up (mk_tk g to tk (min k n)) (44 + k) 0)) s.heap H locs := w
              refine lv_iinc (v := nI k + 1) (lv' := [(5, .int (nI k + 1)), (6, .ref (ad (2 + k))), (0, .ref mk), (1, .int (to)), (2, .int (tk)), (3, .ref (ad 1)), (4, .int (6))]) hx hb dX1_takeOff_66 hl (k := 6) rfl rfl (by decide) rfl (fun ls hl => ?_)
              refine lv_goto (tgt := 12) hx hb dX1_takeOff_69 (by decide) ?_
              have hl := hs_lv hl (k := 0) rfl (nI_1 k)
              exact ih (k + 1) (by omega) (by omega) H locs ls (by rw [mk_tk_y hjk c_40 _ (if_neg c_55).symm] at w; exact w) (lv_sub hl [2, 3, 4, 5, 6, 0] rfl)
            · refine lv_iconst (v := 1) hx hb dX1_takeOff_58 (by decide) ?_
              refine lv_goto (tgt := 63) hx hb dX1_takeOff_59 (by decide) ?_
              refine mk_put X w hm (mk_tk_sr _ _ _ hs) hin hjk 6 (by decide) (List.mem_of_getElem? (i := 3) rfl) (fun _ => by decide) dX1_takeOff_63 (fun H locs w => ?_)
              have w : hg_W D b0 L (mk_F D f mk ad n (va_up (mk_tk g to tk (min k n)) (44 + k) 1)) s.heap H locs := w
              refine lv_iinc (v := nI k + 1) (lv' := [(5, .int (nI k + 1)), (6, .ref (ad (2 + k))), (0, .ref mk), (1, .int (to)), (2, .int (tk)), (3, .ref (ad 1)), (4, .int (6))]) hx hb dX1_takeOff_66 hl (k := 6) rfl rfl (by decide) rfl (fun ls hl => ?_)
              refine lv_goto (tgt := 12) hx hb dX1_takeOff_69 (by decide) ?_
              have hl := hs_lv hl (k := 0) rfl (nI_1 k)
              exact ih (k + 1) (by omega) (by omega) H locs ls (by rw [mk_tk_y hjk c_40 _ (if_pos c_55).symm] at w; exact w) (lv_sub hl [2, 3, 4, 5, 6, 0] rfl)
        · refine lv_astoreN (lv' := [(6, .null), (0, .ref mk), (1, .int (to)), (2, .int (tk)), (3, .ref (ad 1)), (4, .int (6)), (5, .int (nI k))]) hx hb dX1_takeOff_23 hl (by decide) rfl (fun ls hl => ?_)
          refine lv_aloadN hx hb dX1_takeOff_25 (lv_at hl 0 rfl) ?_
          refine lv_ifnullN (tgt := 66) hx hb dX1_takeOff_27 (by decide) ?_
          refine lv_iinc (v := nI k + 1) (lv' := [(5, .int (nI k + 1)), (6, .null), (0, .ref mk), (1, .int (to)), (2, .int (tk)), (3, .ref (ad 1)), (4, .int (6))]) hx hb dX1_takeOff_66 hl (k := 6) rfl rfl (by decide) rfl (fun ls hl => ?_)
          refine lv_goto (tgt := 12) hx hb dX1_takeOff_69 (by decide) ?_
          have hl := hs_lv hl (k := 0) rfl (nI_1 k)
          exact ih (k + 1) (by omega) (by omega) H locs ls (by rw [mk_tk_0 hjk] at w; exact w) (lv_sub hl [2, 3, 4, 5, 6, 0] rfl)
  exact loop 7 0 (by omega) (by omega) H locs ls (by rw [show min 0 n = 0 by omega]; exact w) (lv_sub hl [3, 4, 5, 2, 1, 0] rfl)
theorem hdX1_takeOff : yX1_takeOff.cls ≠ "java/lang/invoke/MethodHandle" ∧ yX1_takeOff.cls ≠ "java/lang/invoke/VarHandle" ∧ (parseMethodDescriptor yX1_takeOff.desc).map (fun d => d.parameters.length) = some 3 := by decide +kernel
set_option maxRecDepth 100000 in
set_option maxHeartbeats 4000000 in
theorem c_X1_holdsWithout (l : Launch) (D : va_G) (b0 : Nat) (L : List Nat) (f : Nat → va_E) (mk : Nat) (ad : Nat → Nat) (n : Nat) (g : Nat → Int32) (hm : mk_ok L mk ad n) (hs : mk_sr g n) (nr : Nat) (ht : mk_t g nr) (to tk : Int32) (hto : ∀ i, i < n → mk_bit to i → g (44 + i) = 0) : hg_Fi l yX1_holdsWithout wsX1_holdsWithout ({ frames := 5, cells := 0, slots := 0, locals := 114 }) D b0 L (mk_F D f mk ad n g) [.ref mk, .int (to), .int (tk)] (if mk_fd (mk_tk g to tk n) n n = hs_NONE then 1 else 0) (mk_F D f mk ad n g) := by
  refine hg_in_i (cc := cX1_holdsWithout) (nL := 4) (by decide) rfl (Nat.le_of_ble_eq_true rfl) (fun p e s m args below meth c R Q X hR hend H locs ls w hl => ?_)
  subst hR
  obtain ⟨hx, hb, hml, hown, hts⟩ := id X.1
  have hin : mk_in wsX1_holdsWithout := ⟨fun w h => List.mem_cons_of_mem _ (List.mem_append_left _ (List.mem_append_left _ (List.mem_append_left _ (List.mem_append_left _ (List.mem_append_right _ h))))), fun w h => List.mem_cons_of_mem _ (List.mem_append_left _ (List.mem_append_left _ (List.mem_append_left _ (List.mem_append_right _ h)))), fun w h => List.mem_cons_of_mem _ (List.mem_append_left _ (List.mem_append_left _ (List.mem_append_right _ h))), fun w h => List.mem_cons_of_mem _ (List.mem_append_left _ (List.mem_append_right _ h)), fun w h => List.mem_cons_of_mem _ (List.mem_append_right _ h)⟩
  have hin3 : ∀ w ∈ wsX30, w ∈ wsX1_holdsWithout := fun w h => List.mem_cons_of_mem _ (List.mem_append_left _ (List.mem_append_left _ (List.mem_append_left _ (List.mem_append_left _ (List.mem_append_left _ (List.mem_append_right _ h))))))
  have hl : lv_has ls 4 [(0, .ref mk), (1, .int (to)), (2, .int (tk))] := hl
  have hn6 := hs.2.1
  refine lv_aload_n hx hb dX1_holdsWithout_0 rfl (lv_at hl 0 rfl) ?_
  refine lv_iload_n hx hb dX1_holdsWithout_1 rfl (lv_at hl 1 rfl) ?_
  refine lv_iload_n hx hb dX1_holdsWithout_2 rfl (lv_at hl 2 rfl) ?_
  refine hg_svF (As := [.ref mk, .int (to), .int (tk)]) (rest := []) X w (c_X1_takeOff l D b0 L f mk ad n g hm hs to tk) (va_cwS 3 hts gX1_holdsWithout_X1_takeOff rfl rfl rfl hdX1_takeOff ⟨Nat.le_of_ble_eq_true rfl, Nat.le_of_ble_eq_true rfl⟩) rfl hl.1 rfl (Nat.le_of_ble_eq_true rfl) dX1_holdsWithout_3 ⟨Nat.zero_le _, Nat.zero_le _⟩ (fun H locs w => ?_)
  refine lv_aload_n hx hb dX1_holdsWithout_6 rfl (lv_at hl 0 rfl) ?_
  refine hg_viF (r := (mk_fd (mk_tk g to tk n) n n)) (As := []) (rest := []) X w (c_X3_firstDropping l D b0 L f mk ad n (mk_tk g to tk n) hm (mk_tk_sr _ _ _ hs) nr (mk_tk_t _ _ _ ht) ) (cwV 0 hts gX1_holdsWithout_X3_firstDropping rfl rfl rfl hdX3_firstDropping ⟨Nat.le_of_ble_eq_true rfl, Nat.le_of_ble_eq_true rfl⟩) hm.1 (mk_at0 D f mk ad n _) rfl rfl rfl hl.1 rfl (Nat.le_of_ble_eq_true rfl) dX1_holdsWithout_7 ⟨Nat.zero_le _, Nat.zero_le _⟩ (fun H locs w => ?_)
  refine lv_ldc (v := (-1000000)) hx hb hown (hts _ (List.mem_of_getElem? (i := 1) rfl)) dX1_holdsWithout_10 ?_
  refine lv_icmp_ne (tgt := 19) hx hb dX1_holdsWithout_12 (by decide) (fun c_12 => ?_) (fun c_12 => ?_)
  · refine lv_iconst (v := 0) hx hb dX1_holdsWithout_19 (by decide) ?_
    refine lv_istore_n (lv' := [(3, .int (0)), (0, .ref mk), (1, .int (to)), (2, .int (tk))]) hx hb dX1_holdsWithout_20 rfl hl (by decide) rfl (fun ls hl => ?_)
    refine lv_aload_n hx hb dX1_holdsWithout_21 rfl (lv_at hl 1 rfl) ?_
    refine lv_iload_n hx hb dX1_holdsWithout_22 rfl (lv_at hl 2 rfl) ?_
    refine lv_iconst (v := 0) hx hb dX1_holdsWithout_23 (by decide) ?_
    refine hg_svF (As := [.ref mk, .int (to), .int (0)]) (rest := []) X w (c_X1_takeOff l D b0 L f mk ad n (mk_tk g to tk n) hm (mk_tk_sr _ _ _ hs) to 0) (va_cwS 3 hts gX1_holdsWithout_X1_takeOff rfl rfl rfl hdX1_takeOff ⟨Nat.le_of_ble_eq_true rfl, Nat.le_of_ble_eq_true rfl⟩) rfl hl.1 rfl (Nat.le_of_ble_eq_true rfl) dX1_holdsWithout_24 ⟨Nat.zero_le _, Nat.zero_le _⟩ (fun H locs w => ?_)
    refine lv_iload_n hx hb dX1_holdsWithout_27 rfl (lv_at hl 0 rfl) ?_
    exact hend H locs (0) (L, mk_F D f mk ad n (mk_tk (mk_tk g to tk n) to 0 n)) _ ls w ⟨(if_neg c_12).symm, (congrArg (fun z => (L, mk_F D f mk ad n z)) (mk_tk_back hto))⟩ rfl dX1_holdsWithout_28
  · refine lv_iconst (v := 1) hx hb dX1_holdsWithout_15 (by decide) ?_
    refine lv_goto (tgt := 20) hx hb dX1_holdsWithout_16 (by decide) ?_
    refine lv_istore_n (lv' := [(3, .int (1)), (0, .ref mk), (1, .int (to)), (2, .int (tk))]) hx hb dX1_holdsWithout_20 rfl hl (by decide) rfl (fun ls hl => ?_)
    refine lv_aload_n hx hb dX1_holdsWithout_21 rfl (lv_at hl 1 rfl) ?_
    refine lv_iload_n hx hb dX1_holdsWithout_22 rfl (lv_at hl 2 rfl) ?_
    refine lv_iconst (v := 0) hx hb dX1_holdsWithout_23 (by decide) ?_
    refine hg_svF (As := [.ref mk, .int (to), .int (0)]) (rest := []) X w (c_X1_takeOff l D b0 L f mk ad n (mk_tk g to tk n) hm (mk_tk_sr _ _ _ hs) to 0) (va_cwS 3 hts gX1_holdsWithout_X1_takeOff rfl rfl rfl hdX1_takeOff ⟨Nat.le_of_ble_eq_true rfl, Nat.le_of_ble_eq_true rfl⟩) rfl hl.1 rfl (Nat.le_of_ble_eq_true rfl) dX1_holdsWithout_24 ⟨Nat.zero_le _, Nat.zero_le _⟩ (fun H locs w => ?_)
    refine lv_iload_n hx hb dX1_holdsWithout_27 rfl (lv_at hl 0 rfl) ?_
    exact hend H locs (1) (L, mk_F D f mk ad n (mk_tk (mk_tk g to tk n) to 0 n)) _ ls w ⟨(if_pos c_12).symm, (congrArg (fun z => (L, mk_F D f mk ad n z)) (mk_tk_back hto))⟩ rfl dX1_holdsWithout_28
