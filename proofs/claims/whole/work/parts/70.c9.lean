theorem hdX1_holdsWithout : yX1_holdsWithout.cls ≠ "java/lang/invoke/MethodHandle" ∧ yX1_holdsWithout.cls ≠ "java/lang/invoke/VarHandle" ∧ (parseMethodDescriptor yX1_holdsWithout.desc).map (fun d => d.parameters.length) = some 3 := by decide +kernel
theorem hdX1_ordersBehind : yX1_ordersBehind.cls ≠ "java/lang/invoke/MethodHandle" ∧ yX1_ordersBehind.cls ≠ "java/lang/invoke/VarHandle" ∧ (parseMethodDescriptor yX1_ordersBehind.desc).map (fun d => d.parameters.length) = some 3 := by decide +kernel
set_option maxRecDepth 100000 in
set_option maxHeartbeats 4000000 in
theorem c_X1_countOrders (l : Launch) (D : va_G) (b0 : Nat) (L : List Nat) (f : Nat → va_E) (oa : Nat → Nat) (C : Nat → Nat → Int32) (mr : Nat) (im : Nat → Option Nat) (mk : Nat) (ad : Nat → Nat) (n : Nat) (g : Nat → Int32) (hm : mk_ok L mk ad n) (hs : mk_sr g n) (ho : ob_ok L oa mk ad n) (nr : Nat) (ht : mk_t g nr) : hg_Fi l yX1_countOrders wsX1_countOrders ({ frames := 6, cells := 0, slots := 0, locals := 137 }) D b0 L (ob_W D f oa C mr im mk ad n g) [.ref mk, .ref (oa 7)] (mk_to g n) (ob_W D f oa (va_up C 20 (mk_cod g n (mk_to g n) (C 20) 64)) mr im mk ad n g) := by
  refine hg_in_i (cc := cX1_countOrders) (nL := 7) (by decide) rfl (Nat.le_of_ble_eq_true rfl) (fun p e s m args below meth c R Q X hR hend H locs ls w hl => ?_)
  subst hR
  obtain ⟨hx, hb, hml, hown, hts⟩ := id X.1
  have hin : mk_in wsX1_countOrders := ⟨fun w h => List.mem_cons_of_mem _ (List.mem_append_left _ (List.mem_append_left _ (List.mem_append_left _ (List.mem_append_left _ (List.mem_append_right _ h))))), fun w h => List.mem_cons_of_mem _ (List.mem_append_left _ (List.mem_append_left _ (List.mem_append_left _ (List.mem_append_right _ h)))), fun w h => List.mem_cons_of_mem _ (List.mem_append_left _ (List.mem_append_left _ (List.mem_append_right _ h))), fun w h => List.mem_cons_of_mem _ (List.mem_append_left _ (List.mem_append_right _ h)), fun w h => List.mem_cons_of_mem _ (List.mem_append_right _ h)⟩
  have hin3 : ∀ w ∈ wsX30, w ∈ wsX1_countOrders := fun w h => List.mem_cons_of_mem _ (List.mem_append_left _ (List.mem_append_left _ (List.mem_append_left _ (List.mem_append_left _ (List.mem_append_left _ (List.mem_append_right _ h))))))
  have hl : lv_has ls 7 [(0, .ref mk), (1, .ref (oa 7))] := hl
  have hn6 := hs.2.1
  refine lv_iconst (v := 0) hx hb dX1_countOrders_0 (by decide) ?_
  refine lv_istore_n (lv' := [(2, .int (0)), (0, .ref mk), (1, .ref (oa 7))]) hx hb dX1_countOrders_1 rfl hl (by decide) rfl (fun ls hl => ?_)
  refine lv_aload_n hx hb dX1_countOrders_2 rfl (lv_at hl 1 rfl) ?_
  refine mk_getM X w hm hin3 5 (by decide) (List.mem_of_getElem? (i := 1) rfl) rfl dX1_countOrders_3 ?_
  refine lv_astore_n (lv' := [(3, .ref (ad 1)), (2, .int (0)), (0, .ref mk), (1, .ref (oa 7))]) hx hb dX1_countOrders_6 rfl hl (by decide) rfl (fun ls hl => ?_)
  refine lv_aload_n hx hb dX1_countOrders_7 rfl (lv_at hl 0 rfl) ?_
  refine mk_len X w hm dX1_countOrders_8 ?_
  refine lv_istore (lv' := [(4, .int (6)), (3, .ref (ad 1)), (2, .int (0)), (0, .ref mk), (1, .ref (oa 7))]) hx hb dX1_countOrders_9 hl (by decide) rfl (fun ls hl => ?_)
  refine lv_iconst (v := 0) hx hb dX1_countOrders_11 (by decide) ?_
  refine lv_istore (lv' := [(5, .int (0)), (4, .int (6)), (3, .ref (ad 1)), (2, .int (0)), (0, .ref mk), (1, .ref (oa 7))]) hx hb dX1_countOrders_12 hl (by decide) rfl (fun ls hl => ?_)
  have loop : ∀ (n0 k : Nat), k ≤ 6 → 6 + 1 ≤ k + n0 → ∀ (H : Heap) (locs : List Loc) (ls : Array Slot), hg_W D b0 L (ob_W D f oa C mr im mk ad n g) s.heap H locs → lv_has ls 7 [(0, .ref mk), (1, .ref (oa 7)), (2, .int (mk_to g (min k n))), (3, .ref (ad 1)), (4, .int (6)), (5, .int (nI k))] → W p l e ({ frames := 6, cells := 0, slots := 0, locals := 137 }) s m args below meth c H locs 0 0 Q (F0 m 14 ls []) := by
    intro n0
    induction n0 with
    | zero =>
      intro k h1 h2
      exact absurd h2 (by omega)
    | succ n0 ih =>
      intro k hk hn0 H locs ls w hl
      refine lv_iload hx hb dX1_countOrders_14 (lv_at hl 5 rfl) ?_
      refine lv_iload hx hb dX1_countOrders_16 (lv_at hl 4 rfl) ?_
      refine lv_icmp_ge (tgt := 56) hx hb dX1_countOrders_18 (by decide) (fun c_18 => ?_) (fun c_18 => ?_)
      · have hk : 6 = k := by
          rcases Nat.lt_or_ge k 6 with q | q
          · exact absurd c_18 (nI_ge (a := k) (b := 6) q (by omega))
          · omega
        subst hk
        refine lv_aload_n hx hb dX1_countOrders_56 rfl (lv_at hl 1 rfl) ?_
        refine ob_alen X w ho 7 (by decide) (N := 64) rfl dX1_countOrders_57 ?_
        refine lv_iconst (v := 1) hx hb dX1_countOrders_58 (by decide) ?_
        refine lv_isub hx hb dX1_countOrders_59 ?_
        refine lv_istore_n (lv' := [(3, .int ((nI 64 - 1))), (0, .ref mk), (1, .ref (oa 7)), (2, .int (mk_to g (min 6 n))), (4, .int (6)), (5, .int (nI 6))]) hx hb dX1_countOrders_60 rfl hl (by decide) rfl (fun ls hl => ?_)
        have hl := hs_lv hl (k := 3) rfl (show mk_to g (min 6 n) = mk_to g n by rw [show min 6 n = n by omega])
        have hl := hs_lv hl (k := 0) rfl (show (nI 64 - 1 : Int32) = nI 64 - 1 from rfl)
        have loop2 : ∀ (q : Nat), q ≤ 64 → ∀ (best : Nat → Int32), mk_cod g n (mk_to g n) best q = mk_cod g n (mk_to g n) (C 20) 64 → ∀ (H : Heap) (locs : List Loc) (ls : Array Slot), hg_W D b0 L (ob_W D f oa (va_up C 20 best) mr im mk ad n g) s.heap H locs → lv_has ls 7 [(0, .ref mk), (1, .ref (oa 7)), (2, .int (mk_to g n)), (3, .int (nI q - 1))] → W p l e ({ frames := 6, cells := 0, slots := 0, locals := 137 }) s m args below meth c H locs 0 0 Q (F0 m 61 ls []) := by
          intro q
          induction q with
          | zero =>
            intro hq best hT H locs ls w hl
            refine lv_iload_n hx hb dX1_countOrders_61 rfl (lv_at hl 3 rfl) ?_
            refine lv_if_lt (tgt := 113) hx hb dX1_countOrders_62 (by decide) (fun c_62 => ?_) (fun c_62 => ?_)
            · have hT1 : best = mk_cod g n (mk_to g n) (C 20) 64 := hT
              subst hT1
              refine lv_iload_n hx hb dX1_countOrders_113 rfl (lv_at hl 2 rfl) ?_
              exact hend H locs (mk_to g n) (L, ob_W D f oa (va_up C 20 (mk_cod g n (mk_to g n) (C 20) 64)) mr im mk ad n g) _ ls w ⟨rfl, rfl⟩ rfl dX1_countOrders_114
            · exact absurd (by decide) c_62
          | succ q ih =>
            intro hq best hT H locs ls w hl
            have hl := hs_lv hl (k := 3) rfl (nI_pred q)
            have hl : lv_has ls 7 [(0, .ref mk), (1, .ref (oa 7)), (2, .int (mk_to g n)), (3, .int (nI q))] := hl
            refine lv_iload_n hx hb dX1_countOrders_61 rfl (lv_at hl 3 rfl) ?_
            refine lv_if_lt (tgt := 113) hx hb dX1_countOrders_62 (by decide) (fun c_62 => ?_) (fun c_62 => ?_)
            · exact absurd c_62 (nI_pos (n := q) (by omega))
            · refine lv_iload_n hx hb dX1_countOrders_65 rfl (lv_at hl 3 rfl) ?_
              refine lv_iload_n hx hb dX1_countOrders_66 rfl (lv_at hl 2 rfl) ?_
              refine lv_iconst (v := (-1)) hx hb dX1_countOrders_67 (by decide) ?_
              refine lv_ixor hx hb dX1_countOrders_68 ?_
              refine lv_iand hx hb dX1_countOrders_69 ?_
              refine lv_if_ne (tgt := 77) hx hb dX1_countOrders_70 (by decide) (fun c_70 => ?_) (fun c_70 => ?_)
              · refine lv_iconst (v := 0) hx hb dX1_countOrders_77 (by decide) ?_
                refine lv_istore (lv' := [(4, .int (0)), (0, .ref mk), (1, .ref (oa 7)), (2, .int (mk_to g n)), (3, .int (nI q))]) hx hb dX1_countOrders_78 hl (by decide) rfl (fun ls hl => ?_)
                refine lv_aload_n hx hb dX1_countOrders_80 rfl (lv_at hl 2 rfl) ?_
                refine lv_iload_n hx hb dX1_countOrders_81 rfl (lv_at hl 4 rfl) ?_
                refine lv_iload hx hb dX1_countOrders_82 (lv_at hl 0 rfl) ?_
                refine lv_if_eq (tgt := 105) hx hb dX1_countOrders_84 (by decide) (fun c_84 => ?_) (fun c_84 => ?_)
                · refine lv_iconst (v := 0) hx hb dX1_countOrders_105 (by decide) ?_
                  refine ob_ast X w ho 7 (by decide) (N := 64) rfl q rfl (by omega) (by decide) 20 q rfl (ob_o0 _ _ (by decide) _) dX1_countOrders_106 (fun H locs w => ?_)
                  refine lv_iinc (v := nI q + (-1)) (lv' := [(3, .int (nI q + (-1))), (4, .int (0)), (0, .ref mk), (1, .ref (oa 7)), (2, .int (mk_to g n))]) hx hb dX1_countOrders_107 hl (k := 4) rfl rfl (by decide) rfl (fun ls hl => ?_)
                  refine lv_goto (tgt := 61) hx hb dX1_countOrders_110 (by decide) ?_
                  have hv : 0 = mk_ov g n (mk_to g n) best (nI q) := by unfold mk_ov; rw [if_pos c_70]
                  rw [hv, hs_up_up] at w
                  have hl := hs_lv hl (k := 0) rfl (hs_m1 (nI q))
                  exact ih (by omega) (va_up best q (mk_ov g n (mk_to g n) best (nI q))) (by rw [mk_cod] at hT; exact hT) H locs ls w (lv_sub hl [2, 3, 4, 0] rfl)
                · exact absurd c_84 (by decide)
              · refine lv_iconst (v := 1) hx hb dX1_countOrders_73 (by decide) ?_
                refine lv_goto (tgt := 78) hx hb dX1_countOrders_74 (by decide) ?_
                refine lv_istore (lv' := [(4, .int (1)), (0, .ref mk), (1, .ref (oa 7)), (2, .int (mk_to g n)), (3, .int (nI q))]) hx hb dX1_countOrders_78 hl (by decide) rfl (fun ls hl => ?_)
                refine lv_aload_n hx hb dX1_countOrders_80 rfl (lv_at hl 2 rfl) ?_
                refine lv_iload_n hx hb dX1_countOrders_81 rfl (lv_at hl 4 rfl) ?_
                refine lv_iload hx hb dX1_countOrders_82 (lv_at hl 0 rfl) ?_
                refine lv_if_eq (tgt := 105) hx hb dX1_countOrders_84 (by decide) (fun c_84 => ?_) (fun c_84 => ?_)
                · exact absurd c_84 (by decide)
                · refine lv_aload_n hx hb dX1_countOrders_87 rfl (lv_at hl 1 rfl) ?_
                  refine lv_iload_n hx hb dX1_countOrders_88 rfl (lv_at hl 3 rfl) ?_
                  refine lv_iload_n hx hb dX1_countOrders_89 rfl (lv_at hl 4 rfl) ?_
                  refine hg_siF (r := (if mk_fd (mk_tk g (mk_to g n) (nI q) n) n n = hs_NONE then 1 else 0)) (As := [.ref mk, .int (mk_to g n), .int (nI q)]) (rest := [.int (nI q), .ref (oa 7)]) X w (c_X1_holdsWithout l D b0 L (ob_F D f oa (va_up C 20 best) mr im) mk ad n g hm hs nr ht (mk_to g n) (nI q) (mk_to_hto hn6)) (va_cwS 3 hts gX1_countOrders_X1_holdsWithout rfl rfl rfl hdX1_holdsWithout ⟨Nat.le_of_ble_eq_true rfl, Nat.le_of_ble_eq_true rfl⟩) rfl hl.1 rfl (Nat.le_of_ble_eq_true rfl) dX1_countOrders_90 ⟨Nat.zero_le _, Nat.zero_le _⟩ (fun H locs w => ?_)
                  refine lv_if_eq (tgt := 105) hx hb dX1_countOrders_93 (by decide) (fun c_93 => ?_) (fun c_93 => ?_)
                  · refine lv_iconst (v := 0) hx hb dX1_countOrders_105 (by decide) ?_
                    refine ob_ast X w ho 7 (by decide) (N := 64) rfl q rfl (by omega) (by decide) 20 q rfl (ob_o0 _ _ (by decide) _) dX1_countOrders_106 (fun H locs w => ?_)
                    refine lv_iinc (v := nI q + (-1)) (lv' := [(3, .int (nI q + (-1))), (4, .int (1)), (0, .ref mk), (1, .ref (oa 7)), (2, .int (mk_to g n))]) hx hb dX1_countOrders_107 hl (k := 4) rfl rfl (by decide) rfl (fun ls hl => ?_)
                    refine lv_goto (tgt := 61) hx hb dX1_countOrders_110 (by decide) ?_
                    have hv : 0 = mk_ov g n (mk_to g n) best (nI q) := by unfold mk_ov; rw [if_neg (fun z => z c_70), if_neg (fun z => absurd c_93 (by rw [if_pos z]; decide))]
                    rw [hv, hs_up_up] at w
                    have hl := hs_lv hl (k := 0) rfl (hs_m1 (nI q))
                    exact ih (by omega) (va_up best q (mk_ov g n (mk_to g n) best (nI q))) (by rw [mk_cod] at hT; exact hT) H locs ls w (lv_sub hl [2, 3, 4, 0] rfl)
                  · refine lv_aload_n hx hb dX1_countOrders_96 rfl (lv_at hl 2 rfl) ?_
                    refine lv_iload_n hx hb dX1_countOrders_97 rfl (lv_at hl 3 rfl) ?_
                    refine lv_iload_n hx hb dX1_countOrders_98 rfl (lv_at hl 4 rfl) ?_
                    refine hg_siF (r := (mk_beh ((va_up C 20 best) 20) (mk_to g n) (nI q))) (As := [.ref (oa 7), .int (mk_to g n), .int (nI q)]) (rest := [.int (nI q), .ref (oa 7)]) X w (c_X1_ordersBehind l D b0 L f oa (va_up C 20 best) mr im mk ad n g hm hs ho (mk_to g n) (nI q)) (va_cwS 3 hts gX1_countOrders_X1_ordersBehind rfl rfl rfl hdX1_ordersBehind ⟨Nat.le_of_ble_eq_true rfl, Nat.le_of_ble_eq_true rfl⟩) rfl hl.1 rfl (Nat.le_of_ble_eq_true rfl) dX1_countOrders_99 ⟨Nat.zero_le _, Nat.zero_le _⟩ (fun H locs w => ?_)
                    refine lv_goto (tgt := 106) hx hb dX1_countOrders_102 (by decide) ?_
                    refine ob_ast X w ho 7 (by decide) (N := 64) rfl q rfl (by omega) (by decide) 20 q rfl (ob_o0 _ _ (by decide) _) dX1_countOrders_106 (fun H locs w => ?_)
                    refine lv_iinc (v := nI q + (-1)) (lv' := [(3, .int (nI q + (-1))), (4, .int (1)), (0, .ref mk), (1, .ref (oa 7)), (2, .int (mk_to g n))]) hx hb dX1_countOrders_107 hl (k := 4) rfl rfl (by decide) rfl (fun ls hl => ?_)
                    refine lv_goto (tgt := 61) hx hb dX1_countOrders_110 (by decide) ?_
                    have hv : (mk_beh ((va_up C 20 best) 20) (mk_to g n) (nI q)) = mk_ov g n (mk_to g n) best (nI q) := by unfold mk_ov; rw [if_neg (fun z => z c_70), if_pos (by rcases Classical.em (mk_fd (mk_tk g (mk_to g n) (nI q) n) n n = hs_NONE) with z | z; exact z; exact absurd (if_neg z) c_93)]; rfl
                    rw [hv, hs_up_up] at w
                    have hl := hs_lv hl (k := 0) rfl (hs_m1 (nI q))
                    exact ih (by omega) (va_up best q (mk_ov g n (mk_to g n) best (nI q))) (by rw [mk_cod] at hT; exact hT) H locs ls w (lv_sub hl [2, 3, 4, 0] rfl)
        exact loop2 64 (by omega) (C 20) rfl H locs ls (by rw [hs_up_id]; exact w) (lv_sub hl [1, 2, 3, 0] rfl)
      · have hkl : k < 6 := by
          rcases Nat.lt_or_ge k 6 with q | q
          · exact q
          · exact absurd (nI_le (a := 6) (b := k) q (by omega)) c_18
        refine lv_aload_n hx hb dX1_countOrders_21 rfl (lv_at hl 3 rfl) ?_
        refine lv_iload hx hb dX1_countOrders_22 (lv_at hl 5 rfl) ?_
        refine mk_ald X w hm k rfl (by omega) dX1_countOrders_24 (fun hjk => ?_) (fun hjk => ?_)
        · refine lv_astore (lv' := [(6, .ref (ad (2 + k))), (0, .ref mk), (1, .ref (oa 7)), (2, .int (mk_to g (min k n))), (3, .ref (ad 1)), (4, .int (6)), (5, .int (nI k))]) hx hb dX1_countOrders_25 hl (by decide) rfl (fun ls hl => ?_)
          refine lv_aload hx hb dX1_countOrders_27 (lv_at hl 0 rfl) ?_
          refine lv_ifnull hx hb dX1_countOrders_29 ?_
          refine lv_aload hx hb dX1_countOrders_32 (lv_at hl 0 rfl) ?_
          refine mk_get X w hm hs hin hjk 6 (by decide) (List.mem_of_getElem? (i := 2) rfl) (Or.inl rfl) rfl dX1_countOrders_34 ?_
          refine lv_if_ne (tgt := 50) hx hb dX1_countOrders_37 (by decide) (fun c_37 => ?_) (fun c_37 => ?_)
          · refine lv_iinc (v := nI k + 1) (lv' := [(5, .int (nI k + 1)), (6, .ref (ad (2 + k))), (0, .ref mk), (1, .ref (oa 7)), (2, .int (mk_to g (min k n))), (3, .ref (ad 1)), (4, .int (6))]) hx hb dX1_countOrders_50 hl (k := 6) rfl rfl (by decide) rfl (fun ls hl => ?_)
            refine lv_goto (tgt := 14) hx hb dX1_countOrders_53 (by decide) ?_
            have he2 : (mk_to g (min k n)) = mk_to g (min (k + 1) n) := by exact mk_to_x hjk c_37
            have hl := hs_lv hl (k := 4) rfl he2
            have hl := hs_lv hl (k := 0) rfl (nI_1 k)
            exact ih (k + 1) (by omega) (by omega) H locs ls w (lv_sub hl [2, 3, 4, 5, 6, 0] rfl)
          · refine lv_iload_n hx hb dX1_countOrders_40 rfl (lv_at hl 3 rfl) ?_
            refine lv_iconst (v := 1) hx hb dX1_countOrders_41 (by decide) ?_
            refine lv_aload hx hb dX1_countOrders_42 (lv_at hl 0 rfl) ?_
            refine mk_get X w hm hs hin hjk 0 (by decide) (List.mem_of_getElem? (i := 3) rfl) (Or.inl rfl) rfl dX1_countOrders_44 ?_
            refine lv_ishl hx hb dX1_countOrders_47 ?_
            refine lv_ior hx hb dX1_countOrders_48 ?_
            refine lv_istore_n (lv' := [(2, .int ((mk_to g (min k n) ||| (1 <<< (nI k &&& 31))))), (6, .ref (ad (2 + k))), (0, .ref mk), (1, .ref (oa 7)), (3, .ref (ad 1)), (4, .int (6)), (5, .int (nI k))]) hx hb dX1_countOrders_49 rfl hl (by decide) rfl (fun ls hl => ?_)
            refine lv_iinc (v := nI k + 1) (lv' := [(5, .int (nI k + 1)), (2, .int ((mk_to g (min k n) ||| (1 <<< (nI k &&& 31))))), (6, .ref (ad (2 + k))), (0, .ref mk), (1, .ref (oa 7)), (3, .ref (ad 1)), (4, .int (6))]) hx hb dX1_countOrders_50 hl (k := 6) rfl rfl (by decide) rfl (fun ls hl => ?_)
            refine lv_goto (tgt := 14) hx hb dX1_countOrders_53 (by decide) ?_
            have he2 : (mk_to g (min k n) ||| (1 <<< (nI k &&& 31))) = mk_to g (min (k + 1) n) := by exact mk_to_y hjk c_37
            have hl := hs_lv hl (k := 1) rfl he2
            have hl := hs_lv hl (k := 0) rfl (nI_1 k)
            exact ih (k + 1) (by omega) (by omega) H locs ls w (lv_sub hl [3, 4, 1, 5, 6, 0] rfl)
        · refine lv_astoreN (lv' := [(6, .null), (0, .ref mk), (1, .ref (oa 7)), (2, .int (mk_to g (min k n))), (3, .ref (ad 1)), (4, .int (6)), (5, .int (nI k))]) hx hb dX1_countOrders_25 hl (by decide) rfl (fun ls hl => ?_)
          refine lv_aloadN hx hb dX1_countOrders_27 (lv_at hl 0 rfl) ?_
          refine lv_ifnullN (tgt := 50) hx hb dX1_countOrders_29 (by decide) ?_
          refine lv_iinc (v := nI k + 1) (lv' := [(5, .int (nI k + 1)), (6, .null), (0, .ref mk), (1, .ref (oa 7)), (2, .int (mk_to g (min k n))), (3, .ref (ad 1)), (4, .int (6))]) hx hb dX1_countOrders_50 hl (k := 6) rfl rfl (by decide) rfl (fun ls hl => ?_)
          refine lv_goto (tgt := 14) hx hb dX1_countOrders_53 (by decide) ?_
          have he2 : (mk_to g (min k n)) = mk_to g (min (k + 1) n) := by exact mk_to_0 hjk
          have hl := hs_lv hl (k := 4) rfl he2
          have hl := hs_lv hl (k := 0) rfl (nI_1 k)
          exact ih (k + 1) (by omega) (by omega) H locs ls w (lv_sub hl [2, 3, 4, 5, 6, 0] rfl)
  exact loop 7 0 (by omega) (by omega) H locs ls w (by rw [show min 0 n = 0 by omega]; exact lv_sub hl [4, 5, 3, 2, 1, 0] rfl)
set_option maxRecDepth 100000 in
set_option maxHeartbeats 4000000 in
theorem c_X1_inFirstOrder (l : Launch) (D : va_G) (b0 : Nat) (L : List Nat) (f : Nat → va_E) (oa : Nat → Nat) (C : Nat → Nat → Int32) (mr : Nat) (im : Nat → Option Nat) (mk : Nat) (ad : Nat → Nat) (n : Nat) (g : Nat → Int32) (hm : mk_ok L mk ad n) (hs : mk_sr g n) (ho : ob_ok L oa mk ad n) (to : Int32) (kk : Nat) (hk5 : kk ≤ 5) : hg_Fi l yX1_inFirstOrder wsX1_inFirstOrder ({ frames := 1, cells := 0, slots := 0, locals := 25 }) D b0 L (ob_W D f oa C mr im mk ad n g) [.ref (oa 7), .int (to), .int (nI kk)] (if C 20 0 = 0 then hs_NONE else mk_ifo (C 20) to kk 0) (ob_W D f oa C mr im mk ad n g) := by
  refine hg_in_i (cc := cX1_inFirstOrder) (nL := 7) (by decide) rfl (Nat.le_of_ble_eq_true rfl) (fun p e s m args below meth c R Q X hR hend H locs ls w hl => ?_)
  subst hR
  obtain ⟨hx, hb, hml, hown, hts⟩ := id X.1
  have hl : lv_has ls 7 [(0, .ref (oa 7)), (1, .int (to)), (2, .int (nI kk))] := hl
  refine lv_aload_n hx hb dX1_inFirstOrder_0 rfl (lv_at hl 0 rfl) ?_
  refine lv_iconst (v := 0) hx hb dX1_inFirstOrder_1 (by decide) ?_
  refine ob_ald X w ho 7 (by decide) (N := 64) rfl 0 rfl (by omega) (by decide) dX1_inFirstOrder_2 ?_
  refine lv_if_ne (tgt := 9) hx hb dX1_inFirstOrder_3 (by decide) (fun c_3 => ?_) (fun c_3 => ?_)
  · refine lv_iconst (v := 0) hx hb dX1_inFirstOrder_9 (by decide) ?_
    refine lv_istore_n (lv' := [(3, .int (0)), (0, .ref (oa 7)), (1, .int (to)), (2, .int (nI kk))]) hx hb dX1_inFirstOrder_10 rfl hl (by decide) rfl (fun ls hl => ?_)
    refine lv_ldc (v := (-1000000)) hx hb hown (hts _ (List.mem_of_getElem? (i := 1) rfl)) dX1_inFirstOrder_11 ?_
    refine lv_istore (lv' := [(4, .int ((-1000000))), (3, .int (0)), (0, .ref (oa 7)), (1, .int (to)), (2, .int (nI kk))]) hx hb dX1_inFirstOrder_13 hl (by decide) rfl (fun ls hl => ?_)
    refine lv_iconst (v := 0) hx hb dX1_inFirstOrder_15 (by decide) ?_
    refine lv_istore (lv' := [(5, .int (0)), (4, .int ((-1000000))), (3, .int (0)), (0, .ref (oa 7)), (1, .int (to)), (2, .int (nI kk))]) hx hb dX1_inFirstOrder_16 hl (by decide) rfl (fun ls hl => ?_)
    have loop : ∀ (n0 k : Nat), k ≤ (kk + 1) → (kk + 1) + 1 ≤ k + n0 → ∀ (tk nx : Int32), mk_ifI (C 20) to kk tk nx k → ∀ (H : Heap) (locs : List Loc) (ls : Array Slot), hg_W D b0 L (ob_W D f oa C mr im mk ad n g) s.heap H locs → lv_has ls 7 [(0, .ref (oa 7)), (1, .int (to)), (2, .int (nI kk)), (3, .int (tk)), (4, .int (nx)), (5, .int (nI k))] → W p l e ({ frames := 1, cells := 0, slots := 0, locals := 25 }) s m args below meth c H locs 0 0 Q (F0 m 18 ls []) := by
      intro n0
      induction n0 with
      | zero =>
        intro k h1 h2
        exact absurd h2 (by omega)
      | succ n0 ih =>
        intro k hk hn0 tk nx hI H locs ls w hl
        refine lv_iload hx hb dX1_inFirstOrder_18 (lv_at hl 5 rfl) ?_
        refine lv_iload_n hx hb dX1_inFirstOrder_20 rfl (lv_at hl 2 rfl) ?_
        refine lv_icmp_gt (tgt := 80) hx hb dX1_inFirstOrder_21 (by decide) (fun c_21 => ?_) (fun c_21 => ?_)
        · have hkg : k = kk + 1 := by
            rcases Nat.lt_or_ge kk k with z | z
            · omega
            · exact absurd c_21 (nI_nlt (a := kk) (b := k) (by omega) (by omega))
          refine lv_iload hx hb dX1_inFirstOrder_80 (lv_at hl 4 rfl) ?_
          exact hend H locs (nx) (L, ob_W D f oa C mr im mk ad n g) _ ls w ⟨(by rw [if_neg c_3]; exact mk_ifI_e (by rw [← hkg]; exact hI)), rfl⟩ rfl dX1_inFirstOrder_82
        · have hkl : k ≤ kk := by
            rcases Nat.lt_or_ge kk k with z | z
            · exact absurd (nI_lt (a := kk) (b := k) (by omega) (by omega)) c_21
            · omega
          refine lv_ldc (v := (-1000000)) hx hb hown (hts _ (List.mem_of_getElem? (i := 1) rfl)) dX1_inFirstOrder_24 ?_
          refine lv_istore (lv' := [(4, .int ((-1000000))), (0, .ref (oa 7)), (1, .int (to)), (2, .int (nI kk)), (3, .int (tk)), (5, .int (nI k))]) hx hb dX1_inFirstOrder_26 hl (by decide) rfl (fun ls hl => ?_)
          refine lv_iconst (v := 5) hx hb dX1_inFirstOrder_28 (by decide) ?_
          refine lv_istore (lv' := [(6, .int (5)), (4, .int ((-1000000))), (0, .ref (oa 7)), (1, .int (to)), (2, .int (nI kk)), (3, .int (tk)), (5, .int (nI k))]) hx hb dX1_inFirstOrder_29 hl (by decide) rfl (fun ls hl => ?_)
          have hl := hs_lv hl (k := 0) rfl (show (5 : Int32) = nI 6 - 1 from rfl)
          have loop2 : ∀ (q : Nat), q ≤ 6 → ∀ (best : Int32), mk_nd (C 20) to tk best q = mk_nd (C 20) to tk hs_NONE 6 → ∀ (H : Heap) (locs : List Loc) (ls : Array Slot), hg_W D b0 L (ob_W D f oa C mr im mk ad n g) s.heap H locs → lv_has ls 7 [(0, .ref (oa 7)), (1, .int (to)), (2, .int (nI kk)), (3, .int (tk)), (4, .int (best)), (5, .int (nI k)), (6, .int (nI q - 1))] → W p l e ({ frames := 1, cells := 0, slots := 0, locals := 25 }) s m args below meth c H locs 0 0 Q (F0 m 31 ls []) := by
            intro q
            induction q with
            | zero =>
              intro hq best hT H locs ls w hl
              refine lv_iload hx hb dX1_inFirstOrder_31 (lv_at hl 6 rfl) ?_
              refine lv_if_lt (tgt := 57) hx hb dX1_inFirstOrder_33 (by decide) (fun c_33 => ?_) (fun c_33 => ?_)
              · have hT1 : best = mk_nd (C 20) to tk hs_NONE 6 := hT
                subst hT1
                refine lv_iload hx hb dX1_inFirstOrder_57 (lv_at hl 4 rfl) ?_
                refine lv_ldc (v := (-1000000)) hx hb hown (hts _ (List.mem_of_getElem? (i := 1) rfl)) dX1_inFirstOrder_59 ?_
                refine lv_icmp_ne (tgt := 67) hx hb dX1_inFirstOrder_61 (by decide) (fun c_61 => ?_) (fun c_61 => ?_)
                · refine lv_iload_n hx hb dX1_inFirstOrder_67 rfl (lv_at hl 3 rfl) ?_
                  refine lv_iconst (v := 1) hx hb dX1_inFirstOrder_68 (by decide) ?_
                  refine lv_iload hx hb dX1_inFirstOrder_69 (lv_at hl 4 rfl) ?_
                  refine lv_ishl hx hb dX1_inFirstOrder_71 ?_
                  refine lv_ior hx hb dX1_inFirstOrder_72 ?_
                  refine lv_istore_n (lv' := [(3, .int ((tk ||| (1 <<< (mk_nd (C 20) to tk hs_NONE 6 &&& 31))))), (0, .ref (oa 7)), (1, .int (to)), (2, .int (nI kk)), (4, .int (mk_nd (C 20) to tk hs_NONE 6)), (5, .int (nI k)), (6, .int (nI 0 - 1))]) hx hb dX1_inFirstOrder_73 rfl hl (by decide) rfl (fun ls hl => ?_)
                  refine lv_iinc (v := nI k + 1) (lv' := [(5, .int (nI k + 1)), (3, .int ((tk ||| (1 <<< (mk_nd (C 20) to tk hs_NONE 6 &&& 31))))), (0, .ref (oa 7)), (1, .int (to)), (2, .int (nI kk)), (4, .int (mk_nd (C 20) to tk hs_NONE 6)), (6, .int (nI 0 - 1))]) hx hb dX1_inFirstOrder_74 hl (k := 5) rfl rfl (by decide) rfl (fun ls hl => ?_)
                  refine lv_goto (tgt := 18) hx hb dX1_inFirstOrder_77 (by decide) ?_
                  have hl := hs_lv hl (k := 0) rfl (nI_1 k)
                  exact ih (k + 1) (by omega) (by omega) _ _ (mk_ifo_s hkl hI c_61) H locs ls w (lv_sub hl [2, 3, 4, 1, 5, 0] rfl)
                · refine lv_ldc (v := (-1000000)) hx hb hown (hts _ (List.mem_of_getElem? (i := 1) rfl)) dX1_inFirstOrder_64 ?_
                  exact hend H locs ((-1000000)) (L, ob_W D f oa C mr im mk ad n g) _ ls w ⟨(by rw [if_neg c_3]; exact mk_ifI_n hkl hI c_61), rfl⟩ rfl dX1_inFirstOrder_66
              · exact absurd (by decide) c_33
            | succ q ih2 =>
              intro hq best hT H locs ls w hl
              have hl := hs_lv hl (k := 6) rfl (nI_pred q)
              have hl : lv_has ls 7 [(0, .ref (oa 7)), (1, .int (to)), (2, .int (nI kk)), (3, .int (tk)), (4, .int (best)), (5, .int (nI k)), (6, .int (nI q))] := hl
              refine lv_iload hx hb dX1_inFirstOrder_31 (lv_at hl 6 rfl) ?_
              refine lv_if_lt (tgt := 57) hx hb dX1_inFirstOrder_33 (by decide) (fun c_33 => ?_) (fun c_33 => ?_)
              · exact absurd c_33 (nI_pos (n := q) (by omega))
              · refine lv_aload_n hx hb dX1_inFirstOrder_36 rfl (lv_at hl 0 rfl) ?_
                refine lv_iload_n hx hb dX1_inFirstOrder_37 rfl (lv_at hl 1 rfl) ?_
                refine lv_iload_n hx hb dX1_inFirstOrder_38 rfl (lv_at hl 3 rfl) ?_
                refine lv_iload hx hb dX1_inFirstOrder_39 (lv_at hl 6 rfl) ?_
                refine hg_siF (r := (mk_from (C 20) to tk (nI q))) (As := [.ref (oa 7), .int (to), .int (tk), .int (nI q)]) (rest := []) X w (c_X1_ordersFrom l D b0 L f oa C mr im mk ad n g hm hs ho to tk (nI q)) (va_cwS 4 hts gX1_inFirstOrder_X1_ordersFrom rfl rfl rfl hdX1_ordersFrom ⟨Nat.le_of_ble_eq_true rfl, Nat.le_of_ble_eq_true rfl⟩) rfl hl.1 rfl (Nat.le_of_ble_eq_true rfl) dX1_inFirstOrder_41 ⟨Nat.zero_le _, Nat.zero_le _⟩ (fun H locs w => ?_)
                refine lv_if_le (tgt := 51) hx hb dX1_inFirstOrder_44 (by decide) (fun c_44 => ?_) (fun c_44 => ?_)
                · refine lv_iinc (v := nI q + (-1)) (lv' := [(6, .int (nI q + (-1))), (0, .ref (oa 7)), (1, .int (to)), (2, .int (nI kk)), (3, .int (tk)), (4, .int (best)), (5, .int (nI k))]) hx hb dX1_inFirstOrder_51 hl (k := 6) rfl rfl (by decide) rfl (fun ls hl => ?_)
                  refine lv_goto (tgt := 31) hx hb dX1_inFirstOrder_54 (by decide) ?_
                  have hl := hs_lv hl (k := 0) rfl (hs_m1 (nI q))
                  exact ih2 (by omega) best (by rw [mk_nd] at hT; rw [if_neg (Int32.not_lt.mpr c_44)] at hT; exact hT) H locs ls w (lv_sub hl [1, 2, 3, 4, 5, 6, 0] rfl)
                · refine lv_iload hx hb dX1_inFirstOrder_47 (lv_at hl 6 rfl) ?_
                  refine lv_istore (lv' := [(4, .int (nI q)), (0, .ref (oa 7)), (1, .int (to)), (2, .int (nI kk)), (3, .int (tk)), (5, .int (nI k)), (6, .int (nI q))]) hx hb dX1_inFirstOrder_49 hl (by decide) rfl (fun ls hl => ?_)
                  refine lv_iinc (v := nI q + (-1)) (lv' := [(6, .int (nI q + (-1))), (4, .int (nI q)), (0, .ref (oa 7)), (1, .int (to)), (2, .int (nI kk)), (3, .int (tk)), (5, .int (nI k))]) hx hb dX1_inFirstOrder_51 hl (k := 6) rfl rfl (by decide) rfl (fun ls hl => ?_)
                  refine lv_goto (tgt := 31) hx hb dX1_inFirstOrder_54 (by decide) ?_
                  have hl := hs_lv hl (k := 0) rfl (hs_m1 (nI q))
                  exact ih2 (by omega) (nI q) (by rw [mk_nd] at hT; rw [if_pos (Int32.not_le.mp c_44)] at hT; exact hT) H locs ls w (lv_sub hl [2, 3, 4, 5, 1, 6, 0] rfl)
          exact loop2 6 (by omega) hs_NONE rfl H locs ls w (lv_sub hl [2, 3, 4, 5, 1, 6, 0] rfl)
    exact loop (kk + 2) 0 (by omega) (by omega) 0 hs_NONE (mk_ifI_0 _ _ _) H locs ls w (lv_sub hl [3, 4, 5, 2, 1, 0] rfl)
  · refine lv_ldc (v := (-1000000)) hx hb hown (hts _ (List.mem_of_getElem? (i := 1) rfl)) dX1_inFirstOrder_6 ?_
    exact hend H locs ((-1000000)) (L, ob_W D f oa C mr im mk ad n g) _ ls w ⟨(if_pos c_3).symm, rfl⟩ rfl dX1_inFirstOrder_8
