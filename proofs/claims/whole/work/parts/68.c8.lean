theorem hdX3_hangsAs : yX3_hangsAs.cls = RX3 ∧ yX3_hangsAs.cls ≠ "java/lang/invoke/MethodHandle" ∧ yX3_hangsAs.cls ≠ "java/lang/invoke/VarHandle" ∧ (parseMethodDescriptor yX3_hangsAs.desc).map (fun d => d.parameters.length) = some 2 := by decide +kernel
set_option maxRecDepth 100000 in
set_option maxHeartbeats 4000000 in
theorem c_X1_cutRopes (l : Launch) (D : va_G) (b0 : Nat) (L : List Nat) (f : Nat → va_E) (oa : Nat → Nat) (C : Nat → Nat → Int32) (mr : Nat) (im : Nat → Option Nat) (mk : Nat) (ad : Nat → Nat) (n : Nat) (g : Nat → Int32) (hm : mk_ok L mk ad n) (hs : mk_sr g n) (ho : ob_ok L oa mk ad n) (nr : Nat) (ht : mk_t g nr) (r : Nat) (hr : r < 8) (x : Nat) (hx40 : x + n ≤ 40) (hhas : mk_has (C 4 r) (nI x) (g 3) = 1) : hg_Fi l yX1_cutRopes wsX1_cutRopes ({ frames := 5, cells := 0, slots := 0, locals := 116 }) D b0 L (ob_W D f oa C mr im mk ad n g) [.ref mk, .ref (oa (11 + r)), .int (nI x)] (mk_cuts g n (C 5) (40 * r + x) 3) (ob_W D f oa C mr im mk ad n g) := by
  refine hg_in_i (cc := cX1_cutRopes) (nL := 6) (by decide) rfl (Nat.le_of_ble_eq_true rfl) (fun p e s m args below meth c R Q X hR hend H locs ls w hl => ?_)
  subst hR
  obtain ⟨hx, hb, hml, hown, hts⟩ := id X.1
  have hin : mk_in wsX1_cutRopes := ⟨fun w h => List.mem_cons_of_mem _ (List.mem_append_left _ (List.mem_append_left _ (List.mem_append_left _ (List.mem_append_left _ (List.mem_append_right _ h))))), fun w h => List.mem_cons_of_mem _ (List.mem_append_left _ (List.mem_append_left _ (List.mem_append_left _ (List.mem_append_right _ h)))), fun w h => List.mem_cons_of_mem _ (List.mem_append_left _ (List.mem_append_left _ (List.mem_append_right _ h))), fun w h => List.mem_cons_of_mem _ (List.mem_append_left _ (List.mem_append_right _ h)), fun w h => List.mem_cons_of_mem _ (List.mem_append_right _ h)⟩
  have hin3 : ∀ w ∈ wsX30, w ∈ wsX1_cutRopes := fun w h => List.mem_cons_of_mem _ (List.mem_append_left _ (List.mem_append_left _ (List.mem_append_left _ (List.mem_append_left _ (List.mem_append_left _ (List.mem_append_left _ (List.mem_append_right _ h)))))))
  have hin5 : ∀ w ∈ wsX50, w ∈ wsX1_cutRopes := fun w h => List.mem_cons_of_mem _ (List.mem_append_left _ (List.mem_append_left _ (List.mem_append_left _ (List.mem_append_left _ (List.mem_append_left _ (List.mem_append_right _ h))))))
  have hl : lv_has ls 6 [(0, .ref mk), (1, .ref (oa (11 + r))), (2, .int (nI x))] := hl
  have hn6 := hs.2.1
  refine lv_iconst (v := 0) hx hb dX1_cutRopes_0 (by decide) ?_
  refine lv_istore_n (lv' := [(3, .int (0)), (0, .ref mk), (1, .ref (oa (11 + r))), (2, .int (nI x))]) hx hb dX1_cutRopes_1 rfl hl (by decide) rfl (fun ls hl => ?_)
  refine lv_iconst (v := 0) hx hb dX1_cutRopes_2 (by decide) ?_
  refine lv_istore (lv' := [(4, .int (0)), (3, .int (0)), (0, .ref mk), (1, .ref (oa (11 + r))), (2, .int (nI x))]) hx hb dX1_cutRopes_3 hl (by decide) rfl (fun ls hl => ?_)
  have loop : ∀ (n0 k : Nat), k ≤ 3 → 3 + 1 ≤ k + n0 → ∀ (H : Heap) (locs : List Loc) (ls : Array Slot), hg_W D b0 L (ob_W D f oa C mr im mk ad n g) s.heap H locs → lv_has ls 6 [(0, .ref mk), (1, .ref (oa (11 + r))), (2, .int (nI x)), (3, .int (mk_cuts g n (C 5) (40 * r + x) k)), (4, .int (nI k))] → W p l e ({ frames := 5, cells := 0, slots := 0, locals := 116 }) s m args below meth c H locs 0 0 Q (F0 m 5 ls []) := by
    intro n0
    induction n0 with
    | zero =>
      intro k h1 h2
      exact absurd h2 (by omega)
    | succ n0 ih =>
      intro k hk hn0 H locs ls w hl
      refine lv_iload hx hb dX1_cutRopes_5 (lv_at hl 4 rfl) ?_
      refine lv_iconst (v := 3) hx hb dX1_cutRopes_7 (by decide) ?_
      refine lv_icmp_ge (tgt := 68) hx hb dX1_cutRopes_8 (by decide) (fun c_8 => ?_) (fun c_8 => ?_)
      · have hk : 3 = k := by
          rcases Nat.lt_or_ge k 3 with q | q
          · exact absurd c_8 (nI_ge (a := k) (b := 3) q (by omega))
          · omega
        subst hk
        refine lv_iload_n hx hb dX1_cutRopes_68 rfl (lv_at hl 3 rfl) ?_
        exact hend H locs (mk_cuts g n (C 5) (40 * r + x) 3) (L, ob_W D f oa C mr im mk ad n g) _ ls w ⟨rfl, rfl⟩ rfl dX1_cutRopes_69
      · have hkl : k < 3 := by
          rcases Nat.lt_or_ge k 3 with q | q
          · exact q
          · exact absurd (nI_le (a := 3) (b := k) q (by omega)) c_8
        refine lv_aload_n hx hb dX1_cutRopes_11 rfl (lv_at hl 0 rfl) ?_
        refine mk_getM X w hm hin3 4 (by decide) (List.mem_of_getElem? (i := 1) rfl) rfl dX1_cutRopes_12 ?_
        refine lv_iload hx hb dX1_cutRopes_15 (lv_at hl 4 rfl) ?_
        refine mk_taut X w hm k rfl (by omega) dX1_cutRopes_17 ?_
        refine lv_istore (lv' := [(5, .int (g (5 + k))), (0, .ref mk), (1, .ref (oa (11 + r))), (2, .int (nI x)), (3, .int (mk_cuts g n (C 5) (40 * r + x) k)), (4, .int (nI k))]) hx hb dX1_cutRopes_18 hl (by decide) rfl (fun ls hl => ?_)
        refine lv_iload hx hb dX1_cutRopes_20 (lv_at hl 0 rfl) ?_
        refine lv_iconst (v := 1) hx hb dX1_cutRopes_22 (by decide) ?_
        refine lv_icmp_le (tgt := 62) hx hb dX1_cutRopes_23 (by decide) (fun c_23 => ?_) (fun c_23 => ?_)
        · refine lv_iinc (v := nI k + 1) (lv' := [(4, .int (nI k + 1)), (5, .int (g (5 + k))), (0, .ref mk), (1, .ref (oa (11 + r))), (2, .int (nI x)), (3, .int (mk_cuts g n (C 5) (40 * r + x) k))]) hx hb dX1_cutRopes_62 hl (k := 5) rfl rfl (by decide) rfl (fun ls hl => ?_)
          refine lv_goto (tgt := 5) hx hb dX1_cutRopes_65 (by decide) ?_
          have he3 : (mk_cuts g n (C 5) (40 * r + x) k) = mk_cuts g n (C 5) (40 * r + x) (k + 1) := by rw [mk_cuts, if_neg (fun q => absurd q.1 (Int32.not_lt.mpr c_23))]
          have hl := hs_lv hl (k := 5) rfl he3
          have hl := hs_lv hl (k := 0) rfl (nI_1 k)
          exact ih (k + 1) (by omega) (by omega) H locs ls w (lv_sub hl [2, 3, 4, 5, 0] rfl)
        · refine lv_aload_n hx hb dX1_cutRopes_26 rfl (lv_at hl 1 rfl) ?_
          refine mk_getM X w hm hin3 4 (by decide) (List.mem_of_getElem? (i := 1) rfl) rfl dX1_cutRopes_27 ?_
          refine lv_iload hx hb dX1_cutRopes_30 (lv_at hl 5 rfl) ?_
          refine lv_iload hx hb dX1_cutRopes_32 (lv_at hl 0 rfl) ?_
          refine lv_iconst (v := 1) hx hb dX1_cutRopes_34 (by decide) ?_
          refine lv_isub hx hb dX1_cutRopes_35 ?_
          refine mk_tast X w hm k rfl (by omega) dX1_cutRopes_36 (fun H locs w => ?_)
          refine lv_aload_n hx hb dX1_cutRopes_37 rfl (lv_at hl 1 rfl) ?_
          refine lv_aload_n hx hb dX1_cutRopes_38 rfl (lv_at hl 2 rfl) ?_
          refine lv_iload_n hx hb dX1_cutRopes_39 rfl (lv_at hl 3 rfl) ?_
          refine hg_viF (r := (mk_so (va_up g (5 + k) (g (5 + k) - 1)) n (C 5) (40 * r + x) n)) (As := [.ref (oa (11 + r)), .int (nI x)]) (rest := []) X w (c_X3_hangsAs l D b0 L f oa C mr im mk ad n (va_up g (5 + k) (g (5 + k) - 1)) hm (mk_sr_up (by omega) hs) ho nr (mk_tcut ht (by omega) (Int32.not_le.mp c_23)) r hr x hx40 (by rw [va_up_ne _ _ (by omega)]; exact hhas)) (cwV 2 hts gX1_cutRopes_X3_hangsAs rfl rfl rfl hdX3_hangsAs ⟨Nat.le_of_ble_eq_true rfl, Nat.le_of_ble_eq_true rfl⟩) hm.1 (mk_at0 D _ mk ad n _) rfl rfl rfl hl.1 rfl (Nat.le_of_ble_eq_true rfl) dX1_cutRopes_40 ⟨Nat.zero_le _, Nat.zero_le _⟩ (fun H locs w => ?_)
          refine lv_if_eq (tgt := 53) hx hb dX1_cutRopes_43 (by decide) (fun c_43 => ?_) (fun c_43 => ?_)
          · refine lv_aload_n hx hb dX1_cutRopes_53 rfl (lv_at hl 1 rfl) ?_
            refine mk_getM X w hm hin3 4 (by decide) (List.mem_of_getElem? (i := 1) rfl) rfl dX1_cutRopes_54 ?_
            refine lv_iload hx hb dX1_cutRopes_57 (lv_at hl 5 rfl) ?_
            refine lv_iload hx hb dX1_cutRopes_59 (lv_at hl 0 rfl) ?_
            refine mk_tast X w hm k rfl (by omega) dX1_cutRopes_61 (fun H locs w => ?_)
            rw [hs_uu] at w
            rw [hs_up_id] at w
            refine lv_iinc (v := nI k + 1) (lv' := [(4, .int (nI k + 1)), (5, .int (g (5 + k))), (0, .ref mk), (1, .ref (oa (11 + r))), (2, .int (nI x)), (3, .int (mk_cuts g n (C 5) (40 * r + x) k))]) hx hb dX1_cutRopes_62 hl (k := 5) rfl rfl (by decide) rfl (fun ls hl => ?_)
            refine lv_goto (tgt := 5) hx hb dX1_cutRopes_65 (by decide) ?_
            have he3 : (mk_cuts g n (C 5) (40 * r + x) k) = mk_cuts g n (C 5) (40 * r + x) (k + 1) := by rw [mk_cuts, if_neg (fun q => q.2 c_43)]
            have hl := hs_lv hl (k := 5) rfl he3
            have hl := hs_lv hl (k := 0) rfl (nI_1 k)
            exact ih (k + 1) (by omega) (by omega) H locs ls w (lv_sub hl [2, 3, 4, 5, 0] rfl)
          · refine lv_iload_n hx hb dX1_cutRopes_46 rfl (lv_at hl 4 rfl) ?_
            refine lv_iconst (v := 1) hx hb dX1_cutRopes_47 (by decide) ?_
            refine lv_iload hx hb dX1_cutRopes_48 (lv_at hl 5 rfl) ?_
            refine lv_ishl hx hb dX1_cutRopes_50 ?_
            refine lv_ior hx hb dX1_cutRopes_51 ?_
            refine lv_istore_n (lv' := [(3, .int ((mk_cuts g n (C 5) (40 * r + x) k ||| (1 <<< (nI k &&& 31))))), (5, .int (g (5 + k))), (0, .ref mk), (1, .ref (oa (11 + r))), (2, .int (nI x)), (4, .int (nI k))]) hx hb dX1_cutRopes_52 rfl hl (by decide) rfl (fun ls hl => ?_)
            refine lv_aload_n hx hb dX1_cutRopes_53 rfl (lv_at hl 2 rfl) ?_
            refine mk_getM X w hm hin3 4 (by decide) (List.mem_of_getElem? (i := 1) rfl) rfl dX1_cutRopes_54 ?_
            refine lv_iload hx hb dX1_cutRopes_57 (lv_at hl 5 rfl) ?_
            refine lv_iload hx hb dX1_cutRopes_59 (lv_at hl 1 rfl) ?_
            refine mk_tast X w hm k rfl (by omega) dX1_cutRopes_61 (fun H locs w => ?_)
            rw [hs_uu] at w
            rw [hs_up_id] at w
            refine lv_iinc (v := nI k + 1) (lv' := [(4, .int (nI k + 1)), (3, .int ((mk_cuts g n (C 5) (40 * r + x) k ||| (1 <<< (nI k &&& 31))))), (5, .int (g (5 + k))), (0, .ref mk), (1, .ref (oa (11 + r))), (2, .int (nI x))]) hx hb dX1_cutRopes_62 hl (k := 5) rfl rfl (by decide) rfl (fun ls hl => ?_)
            refine lv_goto (tgt := 5) hx hb dX1_cutRopes_65 (by decide) ?_
            have he3 : (mk_cuts g n (C 5) (40 * r + x) k ||| (1 <<< (nI k &&& 31))) = mk_cuts g n (C 5) (40 * r + x) (k + 1) := by rw [mk_cuts, if_pos ⟨Int32.not_le.mp c_23, c_43⟩]
            have hl := hs_lv hl (k := 1) rfl he3
            have hl := hs_lv hl (k := 0) rfl (nI_1 k)
            exact ih (k + 1) (by omega) (by omega) H locs ls w (lv_sub hl [3, 4, 5, 1, 0] rfl)
  exact loop 4 0 (by omega) (by omega) H locs ls w (lv_sub hl [2, 3, 4, 1, 0] rfl)
set_option maxRecDepth 100000 in
set_option maxHeartbeats 4000000 in
theorem c_X1_goodsRead (l : Launch) (D : va_G) (b0 : Nat) (L : List Nat) (f : Nat → va_E) (oa : Nat → Nat) (C : Nat → Nat → Int32) (mr : Nat) (im : Nat → Option Nat) (mk : Nat) (ad : Nat → Nat) (n : Nat) (g : Nat → Int32) (hm : mk_ok L mk ad n) (hs : mk_sr g n) (ho : ob_ok L oa mk ad n) (nr : Nat) (ht : mk_t g nr) (r : Nat) (hr : r < 8) (x : Nat) (hx40 : x + n ≤ 40) (hhas : mk_has (C 4 r) (nI x) (g 3) = 1) (a b : Nat) (ha : a < n) (hb0 : b < n) (hab : a ≠ b) (what : Int32) : hg_Fi l yX1_goodsRead wsX1_goodsRead ({ frames := 5, cells := 0, slots := 0, locals := 116 }) D b0 L (ob_W D f oa C mr im mk ad n g) [.ref mk, .ref (ad (2 + a)), .ref (ad (2 + b)), .ref (oa (11 + r)), .int (nI x), .int (what)] (if what = 0 then (mk_rr2 g n (C 5) (40 * r + x) a b 21).1 else (mk_rr2 g n (C 5) (40 * r + x) a b 21).2) (ob_W D f oa C mr im mk ad n g) := by
  refine hg_in_i (cc := cX1_goodsRead) (nL := 12) (by decide) rfl (Nat.le_of_ble_eq_true rfl) (fun p e s m args below meth c R Q X hR hend H locs ls w hl => ?_)
  subst hR
  obtain ⟨hx, hb, hml, hown, hts⟩ := id X.1
  have hin : mk_in wsX1_goodsRead := ⟨fun w h => List.mem_cons_of_mem _ (List.mem_append_left _ (List.mem_append_left _ (List.mem_append_left _ (List.mem_append_left _ (List.mem_append_left _ (List.mem_append_left _ (List.mem_append_right _ h))))))), fun w h => List.mem_cons_of_mem _ (List.mem_append_left _ (List.mem_append_left _ (List.mem_append_left _ (List.mem_append_left _ (List.mem_append_left _ (List.mem_append_right _ h)))))), fun w h => List.mem_cons_of_mem _ (List.mem_append_left _ (List.mem_append_left _ (List.mem_append_left _ (List.mem_append_left _ (List.mem_append_right _ h))))), fun w h => List.mem_cons_of_mem _ (List.mem_append_left _ (List.mem_append_left _ (List.mem_append_left _ (List.mem_append_right _ h)))), fun w h => List.mem_cons_of_mem _ (List.mem_append_left _ (List.mem_append_left _ (List.mem_append_right _ h)))⟩
  have hin3 : ∀ w ∈ wsX30, w ∈ wsX1_goodsRead := fun w h => List.mem_cons_of_mem _ (List.mem_append_left _ (List.mem_append_right _ h))
  have hin5 : ∀ w ∈ wsX50, w ∈ wsX1_goodsRead := fun w h => List.mem_cons_of_mem _ (List.mem_append_right _ h)
  have hl : lv_has ls 12 [(0, .ref mk), (1, .ref (ad (2 + a))), (2, .ref (ad (2 + b))), (3, .ref (oa (11 + r))), (4, .int (nI x)), (5, .int (what))] := hl
  have hn6 := hs.2.1
  refine lv_aload_n hx hb dX1_goodsRead_0 rfl (lv_at hl 1 rfl) ?_
  refine mk_get X w hm hs hin ha 3 (by decide) (List.mem_of_getElem? (i := 1) rfl) (Or.inl rfl) rfl dX1_goodsRead_1 ?_
  refine lv_istore (lv' := [(6, .int (g (26 + a))), (0, .ref mk), (1, .ref (ad (2 + a))), (2, .ref (ad (2 + b))), (3, .ref (oa (11 + r))), (4, .int (nI x)), (5, .int (what))]) hx hb dX1_goodsRead_4 hl (by decide) rfl (fun ls hl => ?_)
  refine lv_aload_n hx hb dX1_goodsRead_6 rfl (lv_at hl 3 rfl) ?_
  refine mk_get X w hm hs hin hb0 3 (by decide) (List.mem_of_getElem? (i := 1) rfl) (Or.inl rfl) rfl dX1_goodsRead_7 ?_
  refine lv_istore (lv' := [(7, .int (g (26 + b))), (6, .int (g (26 + a))), (0, .ref mk), (1, .ref (ad (2 + a))), (2, .ref (ad (2 + b))), (3, .ref (oa (11 + r))), (4, .int (nI x)), (5, .int (what))]) hx hb dX1_goodsRead_10 hl (by decide) rfl (fun ls hl => ?_)
  refine lv_iconst (v := 0) hx hb dX1_goodsRead_12 (by decide) ?_
  refine lv_istore (lv' := [(8, .int (0)), (7, .int (g (26 + b))), (6, .int (g (26 + a))), (0, .ref mk), (1, .ref (ad (2 + a))), (2, .ref (ad (2 + b))), (3, .ref (oa (11 + r))), (4, .int (nI x)), (5, .int (what))]) hx hb dX1_goodsRead_13 hl (by decide) rfl (fun ls hl => ?_)
  refine lv_ldc (v := (-1000000)) hx hb hown (hts _ (List.mem_of_getElem? (i := 2) rfl)) dX1_goodsRead_15 ?_
  refine lv_istore (lv' := [(9, .int ((-1000000))), (8, .int (0)), (7, .int (g (26 + b))), (6, .int (g (26 + a))), (0, .ref mk), (1, .ref (ad (2 + a))), (2, .ref (ad (2 + b))), (3, .ref (oa (11 + r))), (4, .int (nI x)), (5, .int (what))]) hx hb dX1_goodsRead_17 hl (by decide) rfl (fun ls hl => ?_)
  refine lv_iconst (v := 0) hx hb dX1_goodsRead_19 (by decide) ?_
  refine lv_istore (lv' := [(10, .int (0)), (9, .int ((-1000000))), (8, .int (0)), (7, .int (g (26 + b))), (6, .int (g (26 + a))), (0, .ref mk), (1, .ref (ad (2 + a))), (2, .ref (ad (2 + b))), (3, .ref (oa (11 + r))), (4, .int (nI x)), (5, .int (what))]) hx hb dX1_goodsRead_20 hl (by decide) rfl (fun ls hl => ?_)
  have loop : ∀ (n0 k : Nat), k ≤ 21 → 21 + 1 ≤ k + n0 → ∀ (u0 u1 : Int32), ∀ (H : Heap) (locs : List Loc) (ls : Array Slot), hg_W D b0 L (ob_W D f oa C mr im mk ad n (va_up (va_up g (26 + a) u0) (26 + b) u1)) s.heap H locs → lv_has ls 12 [(0, .ref mk), (1, .ref (ad (2 + a))), (2, .ref (ad (2 + b))), (3, .ref (oa (11 + r))), (4, .int (nI x)), (5, .int (what)), (6, .int (g (26 + a))), (7, .int (g (26 + b))), (8, .int ((mk_rr2 g n (C 5) (40 * r + x) a b k).1)), (9, .int ((mk_rr2 g n (C 5) (40 * r + x) a b k).2)), (10, .int (nI k))] → W p l e ({ frames := 5, cells := 0, slots := 0, locals := 116 }) s m args below meth c H locs 0 0 Q (F0 m 22 ls []) := by
    intro n0
    induction n0 with
    | zero =>
      intro k h1 h2
      exact absurd h2 (by omega)
    | succ n0 ih =>
      intro k hk hn0 u0 u1 H locs ls w hl
      refine lv_iload hx hb dX1_goodsRead_22 (lv_at hl 10 rfl) ?_
      refine lv_bipush (v := 20) hx hb dX1_goodsRead_24 (by decide) ?_
      refine lv_icmp_gt (tgt := 98) hx hb dX1_goodsRead_26 (by decide) (fun c_26 => ?_) (fun c_26 => ?_)
      · have hk : 21 = k := by
          rcases Nat.lt_or_ge k 21 with q | q
          · exact absurd c_26 (nI_nlt (a := 20) (b := k) (by omega) (by omega))
          · omega
        subst hk
        refine lv_aload_n hx hb dX1_goodsRead_98 rfl (lv_at hl 1 rfl) ?_
        refine lv_iload hx hb dX1_goodsRead_99 (lv_at hl 6 rfl) ?_
        refine mk_put X w hm (mk_sr_up (by omega) (mk_sr_up (by omega) hs)) hin ha 3 (by decide) (List.mem_of_getElem? (i := 1) rfl) (fun q => absurd q (by decide)) dX1_goodsRead_101 (fun H locs w => ?_)
        have w : hg_W D b0 L (mk_F D (ob_F D f oa C mr im) mk ad n (va_up (va_up (va_up g (26 + a) u0) (26 + b) u1) (26 + a) (g (26 + a)))) s.heap H locs := w
        rw [mk_sw _ _ _ _ (by omega)] at w
        rw [hs_up_id] at w
        refine lv_aload_n hx hb dX1_goodsRead_104 rfl (lv_at hl 2 rfl) ?_
        refine lv_iload hx hb dX1_goodsRead_105 (lv_at hl 7 rfl) ?_
        refine mk_put X w hm (mk_sr_up (by omega) hs) hin hb0 3 (by decide) (List.mem_of_getElem? (i := 1) rfl) (fun q => absurd q (by decide)) dX1_goodsRead_107 (fun H locs w => ?_)
        have w : hg_W D b0 L (mk_F D (ob_F D f oa C mr im) mk ad n (va_up (va_up g (26 + b) u1) (26 + b) (g (26 + b)))) s.heap H locs := w
        rw [hs_uu] at w
        rw [hs_up_id] at w
        refine lv_iload hx hb dX1_goodsRead_110 (lv_at hl 5 rfl) ?_
        refine lv_if_ne (tgt := 120) hx hb dX1_goodsRead_112 (by decide) (fun c_112 => ?_) (fun c_112 => ?_)
        · refine lv_iload hx hb dX1_goodsRead_120 (lv_at hl 9 rfl) ?_
          exact hend H locs ((mk_rr2 g n (C 5) (40 * r + x) a b 21).2) (L, ob_W D f oa C mr im mk ad n g) _ ls w ⟨(if_neg c_112).symm, rfl⟩ rfl dX1_goodsRead_122
        · refine lv_iload hx hb dX1_goodsRead_115 (lv_at hl 8 rfl) ?_
          refine lv_goto (tgt := 122) hx hb dX1_goodsRead_117 (by decide) ?_
          exact hend H locs ((mk_rr2 g n (C 5) (40 * r + x) a b 21).1) (L, ob_W D f oa C mr im mk ad n g) _ ls w ⟨(if_pos c_112).symm, rfl⟩ rfl dX1_goodsRead_122
      · have hkl : k < 21 := by
          rcases Nat.lt_or_ge k 21 with q | q
          · exact q
          · exact absurd (nI_lt (a := 20) (b := k) (by omega) (by omega)) c_26
        refine lv_iconst (v := 0) hx hb dX1_goodsRead_29 (by decide) ?_
        refine lv_istore (lv' := [(11, .int (0)), (0, .ref mk), (1, .ref (ad (2 + a))), (2, .ref (ad (2 + b))), (3, .ref (oa (11 + r))), (4, .int (nI x)), (5, .int (what)), (6, .int (g (26 + a))), (7, .int (g (26 + b))), (8, .int ((mk_rr2 g n (C 5) (40 * r + x) a b k).1)), (9, .int ((mk_rr2 g n (C 5) (40 * r + x) a b k).2)), (10, .int (nI k))]) hx hb dX1_goodsRead_30 hl (by decide) rfl (fun ls hl => ?_)
        have loop2 : ∀ (n0 k2 : Nat), k2 ≤ 21 → 21 + 1 ≤ k2 + n0 → ∀ (u0 u1 : Int32), ∀ (H : Heap) (locs : List Loc) (ls : Array Slot), hg_W D b0 L (ob_W D f oa C mr im mk ad n (va_up (va_up g (26 + a) u0) (26 + b) u1)) s.heap H locs → lv_has ls 12 [(0, .ref mk), (1, .ref (ad (2 + a))), (2, .ref (ad (2 + b))), (3, .ref (oa (11 + r))), (4, .int (nI x)), (5, .int (what)), (6, .int (g (26 + a))), (7, .int (g (26 + b))), (8, .int ((mk_rN g n (C 5) (40 * r + x) a b k (mk_rr2 g n (C 5) (40 * r + x) a b k) k2).1)), (9, .int ((mk_rN g n (C 5) (40 * r + x) a b k (mk_rr2 g n (C 5) (40 * r + x) a b k) k2).2)), (10, .int (nI k)), (11, .int (nI k2))] → W p l e ({ frames := 5, cells := 0, slots := 0, locals := 116 }) s m args below meth c H locs 0 0 Q (F0 m 32 ls []) := by
          intro n0
          induction n0 with
          | zero =>
            intro k2 h1 h2
            exact absurd h2 (by omega)
          | succ n0 ih2 =>
            intro k2 hk hn0 u0 u1 H locs ls w hl
            refine lv_iload hx hb dX1_goodsRead_32 (lv_at hl 11 rfl) ?_
            refine lv_bipush (v := 20) hx hb dX1_goodsRead_34 (by decide) ?_
            refine lv_icmp_gt (tgt := 92) hx hb dX1_goodsRead_36 (by decide) (fun c_36 => ?_) (fun c_36 => ?_)
            · have hk2 : 21 = k2 := by
                rcases Nat.lt_or_ge k2 21 with q | q
                · exact absurd c_36 (nI_nlt (a := 20) (b := k2) (by omega) (by omega))
                · omega
              subst hk2
              refine lv_iinc (v := nI k + 1) (lv' := [(10, .int (nI k + 1)), (0, .ref mk), (1, .ref (ad (2 + a))), (2, .ref (ad (2 + b))), (3, .ref (oa (11 + r))), (4, .int (nI x)), (5, .int (what)), (6, .int (g (26 + a))), (7, .int (g (26 + b))), (8, .int ((mk_rN g n (C 5) (40 * r + x) a b k (mk_rr2 g n (C 5) (40 * r + x) a b k) 21).1)), (9, .int ((mk_rN g n (C 5) (40 * r + x) a b k (mk_rr2 g n (C 5) (40 * r + x) a b k) 21).2)), (11, .int (nI 21))]) hx hb dX1_goodsRead_92 hl (k := 10) rfl rfl (by decide) rfl (fun ls hl => ?_)
              refine lv_goto (tgt := 22) hx hb dX1_goodsRead_95 (by decide) ?_
              have he8 : ((mk_rN g n (C 5) (40 * r + x) a b k (mk_rr2 g n (C 5) (40 * r + x) a b k) 21).1) = (mk_rr2 g n (C 5) (40 * r + x) a b (k + 1)).1 := by rfl
              have hl := hs_lv hl (k := 9) rfl he8
              have he9 : ((mk_rN g n (C 5) (40 * r + x) a b k (mk_rr2 g n (C 5) (40 * r + x) a b k) 21).2) = (mk_rr2 g n (C 5) (40 * r + x) a b (k + 1)).2 := by rfl
              have hl := hs_lv hl (k := 10) rfl he9
              have hl := hs_lv hl (k := 0) rfl (nI_1 k)
              exact ih (k + 1) (by omega) (by omega) _ _ H locs ls w (lv_sub hl [1, 2, 3, 4, 5, 6, 7, 8, 9, 10, 0] rfl)
            · have hk2l : k2 < 21 := by
                rcases Nat.lt_or_ge k2 21 with q | q
                · exact q
                · exact absurd (nI_lt (a := 20) (b := k2) (by omega) (by omega)) c_36
              refine lv_aload_n hx hb dX1_goodsRead_39 rfl (lv_at hl 1 rfl) ?_
              refine lv_iload hx hb dX1_goodsRead_40 (lv_at hl 10 rfl) ?_
              refine mk_put X w hm (mk_sr_up (by omega) (mk_sr_up (by omega) hs)) hin ha 3 (by decide) (List.mem_of_getElem? (i := 1) rfl) (fun q => absurd q (by decide)) dX1_goodsRead_42 (fun H locs w => ?_)
              have w : hg_W D b0 L (mk_F D (ob_F D f oa C mr im) mk ad n (va_up (va_up (va_up g (26 + a) u0) (26 + b) u1) (26 + a) (nI k))) s.heap H locs := w
              rw [mk_sw _ _ _ _ (by omega)] at w
              refine lv_aload_n hx hb dX1_goodsRead_45 rfl (lv_at hl 2 rfl) ?_
              refine lv_iload hx hb dX1_goodsRead_46 (lv_at hl 11 rfl) ?_
              refine mk_put X w hm (mk_sr_up (by omega) (mk_sr_up (by omega) hs)) hin hb0 3 (by decide) (List.mem_of_getElem? (i := 1) rfl) (fun q => absurd q (by decide)) dX1_goodsRead_48 (fun H locs w => ?_)
              have w : hg_W D b0 L (mk_F D (ob_F D f oa C mr im) mk ad n (va_up (va_up (va_up g (26 + a) (nI k)) (26 + b) u1) (26 + b) (nI k2))) s.heap H locs := w
              rw [hs_uu] at w
              refine lv_aload_n hx hb dX1_goodsRead_51 rfl (lv_at hl 0 rfl) ?_
              refine lv_aload_n hx hb dX1_goodsRead_52 rfl (lv_at hl 3 rfl) ?_
              refine lv_iload hx hb dX1_goodsRead_53 (lv_at hl 4 rfl) ?_
              refine hg_viF (r := (mk_so (va_up (va_up g (26 + a) (nI k)) (26 + b) (nI k2)) n (C 5) (40 * r + x) n)) (As := [.ref (oa (11 + r)), .int (nI x)]) (rest := []) X w (c_X3_hangsAs l D b0 L f oa C mr im mk ad n (va_up (va_up g (26 + a) (nI k)) (26 + b) (nI k2)) hm (mk_sr_up (by omega) (mk_sr_up (by omega) hs)) ho nr (mk_t_up (by omega) (mk_t_up (by omega) ht)) r hr x hx40 (by rw [va_up_ne _ _ (by omega), va_up_ne _ _ (by omega)]; exact hhas)) (cwV 2 hts gX1_goodsRead_X3_hangsAs rfl rfl rfl hdX3_hangsAs ⟨Nat.le_of_ble_eq_true rfl, Nat.le_of_ble_eq_true rfl⟩) hm.1 (mk_at0 D _ mk ad n _) rfl rfl rfl hl.1 rfl (Nat.le_of_ble_eq_true rfl) dX1_goodsRead_55 ⟨Nat.zero_le _, Nat.zero_le _⟩ (fun H locs w => ?_)
              refine lv_if_eq (tgt := 86) hx hb dX1_goodsRead_58 (by decide) (fun c_58 => ?_) (fun c_58 => ?_)
              · refine lv_iinc (v := nI k2 + 1) (lv' := [(11, .int (nI k2 + 1)), (0, .ref mk), (1, .ref (ad (2 + a))), (2, .ref (ad (2 + b))), (3, .ref (oa (11 + r))), (4, .int (nI x)), (5, .int (what)), (6, .int (g (26 + a))), (7, .int (g (26 + b))), (8, .int ((mk_rN g n (C 5) (40 * r + x) a b k (mk_rr2 g n (C 5) (40 * r + x) a b k) k2).1)), (9, .int ((mk_rN g n (C 5) (40 * r + x) a b k (mk_rr2 g n (C 5) (40 * r + x) a b k) k2).2)), (10, .int (nI k))]) hx hb dX1_goodsRead_86 hl (k := 11) rfl rfl (by decide) rfl (fun ls hl => ?_)
                refine lv_goto (tgt := 32) hx hb dX1_goodsRead_89 (by decide) ?_
                have he8 : ((mk_rN g n (C 5) (40 * r + x) a b k (mk_rr2 g n (C 5) (40 * r + x) a b k) k2).1) = (mk_rN g n (C 5) (40 * r + x) a b k (mk_rr2 g n (C 5) (40 * r + x) a b k) (k2 + 1)).1 := by (try simp only [lg_cmp_le, lg_cmp_ge, lg_cmp_lt, lg_cmp_gt, ← Int32.not_lt, ← Int64.not_lt, Classical.not_not] at c_26 c_36 c_58); first | (simp [mk_rN, c_26, c_36, c_58]; done) | (simp [mk_rN, c_26, c_36, eq_true c_58]; done) | (exfalso; clear hend ih; simp_all; done)
                have hl := hs_lv hl (k := 9) rfl he8
                have he9 : ((mk_rN g n (C 5) (40 * r + x) a b k (mk_rr2 g n (C 5) (40 * r + x) a b k) k2).2) = (mk_rN g n (C 5) (40 * r + x) a b k (mk_rr2 g n (C 5) (40 * r + x) a b k) (k2 + 1)).2 := by (try simp only [lg_cmp_le, lg_cmp_ge, lg_cmp_lt, lg_cmp_gt, ← Int32.not_lt, ← Int64.not_lt, Classical.not_not] at c_26 c_36 c_58); first | (simp [mk_rN, c_26, c_36, c_58]; done) | (simp [mk_rN, c_26, c_36, eq_true c_58]; done) | (exfalso; clear hend ih; simp_all; done)
                have hl := hs_lv hl (k := 10) rfl he9
                have hl := hs_lv hl (k := 0) rfl (nI_1 k2)
                exact ih2 (k2 + 1) (by omega) (by omega) _ _ H locs ls w (lv_sub hl [1, 2, 3, 4, 5, 6, 7, 8, 9, 10, 11, 0] rfl)
              · refine lv_iload hx hb dX1_goodsRead_61 (lv_at hl 9 rfl) ?_
                refine lv_ldc (v := (-1000000)) hx hb hown (hts _ (List.mem_of_getElem? (i := 2) rfl)) dX1_goodsRead_63 ?_
                refine lv_icmp_ne (tgt := 79) hx hb dX1_goodsRead_65 (by decide) (fun c_65 => ?_) (fun c_65 => ?_)
                · refine lv_iload hx hb dX1_goodsRead_79 (lv_at hl 9 rfl) ?_
                  refine lv_istore (lv' := [(9, .int ((mk_rN g n (C 5) (40 * r + x) a b k (mk_rr2 g n (C 5) (40 * r + x) a b k) k2).2)), (0, .ref mk), (1, .ref (ad (2 + a))), (2, .ref (ad (2 + b))), (3, .ref (oa (11 + r))), (4, .int (nI x)), (5, .int (what)), (6, .int (g (26 + a))), (7, .int (g (26 + b))), (8, .int ((mk_rN g n (C 5) (40 * r + x) a b k (mk_rr2 g n (C 5) (40 * r + x) a b k) k2).1)), (10, .int (nI k)), (11, .int (nI k2))]) hx hb dX1_goodsRead_81 hl (by decide) rfl (fun ls hl => ?_)
                  refine lv_iinc (v := (mk_rN g n (C 5) (40 * r + x) a b k (mk_rr2 g n (C 5) (40 * r + x) a b k) k2).1 + 1) (lv' := [(8, .int ((mk_rN g n (C 5) (40 * r + x) a b k (mk_rr2 g n (C 5) (40 * r + x) a b k) k2).1 + 1)), (9, .int ((mk_rN g n (C 5) (40 * r + x) a b k (mk_rr2 g n (C 5) (40 * r + x) a b k) k2).2)), (0, .ref mk), (1, .ref (ad (2 + a))), (2, .ref (ad (2 + b))), (3, .ref (oa (11 + r))), (4, .int (nI x)), (5, .int (what)), (6, .int (g (26 + a))), (7, .int (g (26 + b))), (10, .int (nI k)), (11, .int (nI k2))]) hx hb dX1_goodsRead_83 hl (k := 9) rfl rfl (by decide) rfl (fun ls hl => ?_)
                  refine lv_iinc (v := nI k2 + 1) (lv' := [(11, .int (nI k2 + 1)), (8, .int ((mk_rN g n (C 5) (40 * r + x) a b k (mk_rr2 g n (C 5) (40 * r + x) a b k) k2).1 + 1)), (9, .int ((mk_rN g n (C 5) (40 * r + x) a b k (mk_rr2 g n (C 5) (40 * r + x) a b k) k2).2)), (0, .ref mk), (1, .ref (ad (2 + a))), (2, .ref (ad (2 + b))), (3, .ref (oa (11 + r))), (4, .int (nI x)), (5, .int (what)), (6, .int (g (26 + a))), (7, .int (g (26 + b))), (10, .int (nI k))]) hx hb dX1_goodsRead_86 hl (k := 11) rfl rfl (by decide) rfl (fun ls hl => ?_)
                  refine lv_goto (tgt := 32) hx hb dX1_goodsRead_89 (by decide) ?_
                  have he8 : ((mk_rN g n (C 5) (40 * r + x) a b k (mk_rr2 g n (C 5) (40 * r + x) a b k) k2).1 + 1) = (mk_rN g n (C 5) (40 * r + x) a b k (mk_rr2 g n (C 5) (40 * r + x) a b k) (k2 + 1)).1 := by (try simp only [lg_cmp_le, lg_cmp_ge, lg_cmp_lt, lg_cmp_gt, ← Int32.not_lt, ← Int64.not_lt, Classical.not_not] at c_26 c_36 c_58 c_65); first | (simp [mk_rN, c_26, c_36, c_58, c_65]; done) | (simp [mk_rN, c_26, c_36, c_58, c_65]; done) | (exfalso; clear hend ih; simp_all; done)
                  have hl := hs_lv hl (k := 1) rfl he8
                  have he9 : ((mk_rN g n (C 5) (40 * r + x) a b k (mk_rr2 g n (C 5) (40 * r + x) a b k) k2).2) = (mk_rN g n (C 5) (40 * r + x) a b k (mk_rr2 g n (C 5) (40 * r + x) a b k) (k2 + 1)).2 := by (try simp only [lg_cmp_le, lg_cmp_ge, lg_cmp_lt, lg_cmp_gt, ← Int32.not_lt, ← Int64.not_lt, Classical.not_not] at c_26 c_36 c_58 c_65); first | (simp [mk_rN, c_26, c_36, c_58, c_65]; done) | (simp [mk_rN, c_26, c_36, c_58, c_65]; done) | (exfalso; clear hend ih; simp_all; done)
                  have hl := hs_lv hl (k := 2) rfl he9
                  have hl := hs_lv hl (k := 0) rfl (nI_1 k2)
                  exact ih2 (k2 + 1) (by omega) (by omega) _ _ H locs ls w (lv_sub hl [3, 4, 5, 6, 7, 8, 9, 10, 1, 2, 11, 0] rfl)
                · refine lv_bipush (v := 21) hx hb dX1_goodsRead_68 (by decide) ?_
                  refine lv_iload hx hb dX1_goodsRead_70 (lv_at hl 10 rfl) ?_
                  refine lv_imul hx hb dX1_goodsRead_72 ?_
                  refine lv_iload hx hb dX1_goodsRead_73 (lv_at hl 11 rfl) ?_
                  refine lv_iadd hx hb dX1_goodsRead_75 ?_
                  refine lv_goto (tgt := 81) hx hb dX1_goodsRead_76 (by decide) ?_
                  refine lv_istore (lv' := [(9, .int (((21 * nI k) + nI k2))), (0, .ref mk), (1, .ref (ad (2 + a))), (2, .ref (ad (2 + b))), (3, .ref (oa (11 + r))), (4, .int (nI x)), (5, .int (what)), (6, .int (g (26 + a))), (7, .int (g (26 + b))), (8, .int ((mk_rN g n (C 5) (40 * r + x) a b k (mk_rr2 g n (C 5) (40 * r + x) a b k) k2).1)), (10, .int (nI k)), (11, .int (nI k2))]) hx hb dX1_goodsRead_81 hl (by decide) rfl (fun ls hl => ?_)
                  refine lv_iinc (v := (mk_rN g n (C 5) (40 * r + x) a b k (mk_rr2 g n (C 5) (40 * r + x) a b k) k2).1 + 1) (lv' := [(8, .int ((mk_rN g n (C 5) (40 * r + x) a b k (mk_rr2 g n (C 5) (40 * r + x) a b k) k2).1 + 1)), (9, .int (((21 * nI k) + nI k2))), (0, .ref mk), (1, .ref (ad (2 + a))), (2, .ref (ad (2 + b))), (3, .ref (oa (11 + r))), (4, .int (nI x)), (5, .int (what)), (6, .int (g (26 + a))), (7, .int (g (26 + b))), (10, .int (nI k)), (11, .int (nI k2))]) hx hb dX1_goodsRead_83 hl (k := 9) rfl rfl (by decide) rfl (fun ls hl => ?_)
                  refine lv_iinc (v := nI k2 + 1) (lv' := [(11, .int (nI k2 + 1)), (8, .int ((mk_rN g n (C 5) (40 * r + x) a b k (mk_rr2 g n (C 5) (40 * r + x) a b k) k2).1 + 1)), (9, .int (((21 * nI k) + nI k2))), (0, .ref mk), (1, .ref (ad (2 + a))), (2, .ref (ad (2 + b))), (3, .ref (oa (11 + r))), (4, .int (nI x)), (5, .int (what)), (6, .int (g (26 + a))), (7, .int (g (26 + b))), (10, .int (nI k))]) hx hb dX1_goodsRead_86 hl (k := 11) rfl rfl (by decide) rfl (fun ls hl => ?_)
                  refine lv_goto (tgt := 32) hx hb dX1_goodsRead_89 (by decide) ?_
                  have he8 : ((mk_rN g n (C 5) (40 * r + x) a b k (mk_rr2 g n (C 5) (40 * r + x) a b k) k2).1 + 1) = (mk_rN g n (C 5) (40 * r + x) a b k (mk_rr2 g n (C 5) (40 * r + x) a b k) (k2 + 1)).1 := by (try simp only [lg_cmp_le, lg_cmp_ge, lg_cmp_lt, lg_cmp_gt, ← Int32.not_lt, ← Int64.not_lt, Classical.not_not] at c_26 c_36 c_58 c_65); first | (simp [mk_rN, c_26, c_36, c_58, c_65]; done) | (simp [mk_rN, c_26, c_36, c_58, eq_true c_65]; done) | (exfalso; clear hend ih; simp_all; done)
                  have hl := hs_lv hl (k := 1) rfl he8
                  have he9 : ((21 * nI k) + nI k2) = (mk_rN g n (C 5) (40 * r + x) a b k (mk_rr2 g n (C 5) (40 * r + x) a b k) (k2 + 1)).2 := by (try simp only [lg_cmp_le, lg_cmp_ge, lg_cmp_lt, lg_cmp_gt, ← Int32.not_lt, ← Int64.not_lt, Classical.not_not] at c_26 c_36 c_58 c_65); first | (simp [mk_rN, c_26, c_36, c_58, c_65]; done) | (simp [mk_rN, c_26, c_36, c_58, eq_true c_65]; done) | (exfalso; clear hend ih; simp_all; done)
                  have hl := hs_lv hl (k := 2) rfl he9
                  have hl := hs_lv hl (k := 0) rfl (nI_1 k2)
                  exact ih2 (k2 + 1) (by omega) (by omega) _ _ H locs ls w (lv_sub hl [3, 4, 5, 6, 7, 8, 9, 10, 1, 2, 11, 0] rfl)
        exact loop2 22 0 (by omega) (by omega) _ _ H locs ls w (lv_sub hl [1, 2, 3, 4, 5, 6, 7, 8, 9, 10, 11, 0] rfl)
  exact loop 22 0 (by omega) (by omega) (g (26 + a)) (g (26 + b)) H locs ls (by rw [hs_up_id, hs_up_id]; exact w) (lv_sub hl [5, 6, 7, 8, 9, 10, 4, 3, 2, 1, 0] rfl)
set_option maxRecDepth 100000 in
set_option maxHeartbeats 4000000 in
theorem c_X9_leave (l : Launch) (D : va_G) (b0 : Nat) (L : List Nat) (f : Nat → va_E) (oa : Nat → Nat) (C : Nat → Nat → Int32) (mr : Nat) (im : Nat → Option Nat) (mk : Nat) (ad : Nat → Nat) (n : Nat) (g : Nat → Int32) (hm : mk_ok L mk ad n) (hs : mk_sr g n) (ho : ob_ok L oa mk ad n) (htr : hs_tr C) (b : Int32) : hg_Fv l yX9_leave wsX9_leave ({ frames := 0, cells := 0, slots := 0, locals := 0 }) D b0 L (ob_W D f oa C mr im mk ad n g) [.ref (oa 4), .int (b)] (ob_W D f oa (sp_leave C b) mr im mk ad n g) := by
  refine hg_in_v (cc := cX9_leave) (nL := 2) (by decide) rfl (Nat.le_of_ble_eq_true rfl) (fun p e s m args below meth c R Q X _ hR hend H locs ls w hl => ?_)
  subst hR
  obtain ⟨hx, hb, hml, hown, hts⟩ := id X.1
  have hin9 : ∀ w ∈ wsX90, w ∈ wsX9_leave := fun w h => List.mem_cons_of_mem _ (List.mem_append_right _ h)
  have hl : lv_has ls 2 [(0, .ref (oa 4)), (1, .int (b))] := hl
  obtain ⟨t, ht16, htt⟩ := htr
  refine lv_aload_n hx hb dX9_leave_0 rfl (lv_at hl 0 rfl) ?_
  refine ob_get X w ho 4 (by decide) (C0 := RX9) (T := TX9) (N := 2) (ci := 7) rfl hin9 rfl 1 (by decide) (List.mem_of_getElem? (i := 1) rfl) rfl rfl dX9_leave_1 ?_
  refine lv_bipush (v := 16) hx hb dX9_leave_4 (by decide) ?_
  refine lv_icmp_ge (tgt := 29) hx hb dX9_leave_6 (by decide) (fun c_6 => ?_) (fun c_6 => ?_)
  · exact hend H locs (L, ob_W D f oa C mr im mk ad n g) _ ls w (ob_eq (by unfold sp_leave; rw [if_neg (by exact Int32.not_lt.mpr c_6)]; first | done | rfl) rfl) dX9_leave_29
  · have htl : t < 16 := (nI_ltI (b := 16) (by omega) (by decide)).mp (by rw [← htt]; exact hs_lt c_6)
    have htc : (C 18 0).toNatClampNeg = t := by rw [htt]; exact nI_clamp (by omega)
    refine lv_aload_n hx hb dX9_leave_9 rfl (lv_at hl 0 rfl) ?_
    refine ob_get X w ho 4 (by decide) (C0 := RX9) (T := TX9) (N := 2) (ci := 7) rfl hin9 rfl 0 (by decide) (List.mem_of_getElem? (i := 2) rfl) rfl rfl dX9_leave_10 ?_
    refine lv_aload_n hx hb dX9_leave_13 rfl (lv_at hl 0 rfl) ?_
    refine ob_get X w ho 4 (by decide) (C0 := RX9) (T := TX9) (N := 2) (ci := 7) rfl hin9 rfl 1 (by decide) (List.mem_of_getElem? (i := 1) rfl) rfl rfl dX9_leave_14 ?_
    refine lv_iload_n hx hb dX9_leave_17 rfl (lv_at hl 1 rfl) ?_
    refine ob_ast X w ho 5 (by decide) (N := 16) rfl t htt (by omega) (by decide) 17 t rfl (ob_o0 _ _ (by decide) _) dX9_leave_18 (fun H locs w => ?_)
    refine lv_aload_n hx hb dX9_leave_19 rfl (lv_at hl 0 rfl) ?_
    refine lv_dup hx hb dX9_leave_20 rfl ?_
    refine ob_get X w ho 4 (by decide) (C0 := RX9) (T := TX9) (N := 2) (ci := 7) rfl hin9 rfl 1 (by decide) (List.mem_of_getElem? (i := 1) rfl) rfl rfl dX9_leave_21 ?_
    refine lv_iconst (v := 1) hx hb dX9_leave_24 (by decide) ?_
    refine lv_iadd hx hb dX9_leave_25 ?_
    refine ob_put X w ho 4 (by decide) (C0 := RX9) (T := TX9) (N := 2) (ci := 7) rfl hin9 tyX9_ok nmX9 rfl 1 (by decide) (List.mem_of_getElem? (i := 1) rfl) rfl rfl rfl (by show _ < 2; decide) 18 0 rfl (ob_o0 _ _ (by decide) 0) dX9_leave_26 (fun H locs w => ?_)
    exact hend H locs (L, ob_W D f oa (mo_w (mo_w C 17 t (b)) 18 0 (((mo_w C 17 t (b)) 18 0 + 1))) mr im mk ad n g) _ ls w (ob_eq (by unfold sp_leave; rw [if_pos (hs_lt c_6), htc]; first | done | rfl) rfl) dX9_leave_29
set_option maxRecDepth 100000 in
set_option maxHeartbeats 4000000 in
theorem c_J7_fill_53178 (l : Launch) (D : va_G) (b0 : Nat) (L : List Nat) (f : Nat → va_E) (oa : Nat → Nat) (C : Nat → Nat → Int32) (mr : Nat) (im : Nat → Option Nat) (mk : Nat) (ad : Nat → Nat) (n : Nat) (g : Nat → Int32) (hm : mk_ok L mk ad n) (hs : mk_sr g n) (ho : ob_ok L oa mk ad n) (r : Nat) (hr : r < 8) : hg_Fv l yJ7_fill_53178 wsJ7_fill_53178 ({ frames := 0, cells := 0, slots := 0, locals := 0 }) D b0 L (ob_W D f oa C mr im mk ad n g) [.ref (oa (19 + r)), .int (0)] (ob_W D f oa (va_up C 5 (hs_zero (C 5) r 40)) mr im mk ad n g) := by
  refine hg_in_v (cc := cJ7_fill_53178) (nL := 4) (by decide) rfl (Nat.le_of_ble_eq_true rfl) (fun p e s m args below meth c R Q X _ hR hend H locs ls w hl => ?_)
  subst hR
  obtain ⟨hx, hb, hml, hown, hts⟩ := id X.1
  have hl : lv_has ls 4 [(0, .ref (oa (19 + r))), (1, .int (0))] := hl
  refine lv_iconst (v := 0) hx hb dJ7_fill_53178_0 (by decide) ?_
  refine lv_istore_n (lv' := [(2, .int (0)), (0, .ref (oa (19 + r))), (1, .int (0))]) hx hb dJ7_fill_53178_1 rfl hl (by decide) rfl (fun ls hl => ?_)
  refine lv_aload_n hx hb dJ7_fill_53178_2 rfl (lv_at hl 1 rfl) ?_
  refine ob_alen X w ho (19 + r) (by omega) (N := 40) ob_eI dJ7_fill_53178_3 ?_
  refine lv_istore_n (lv' := [(3, .int (nI 40)), (2, .int (0)), (0, .ref (oa (19 + r))), (1, .int (0))]) hx hb dJ7_fill_53178_4 rfl hl (by decide) rfl (fun ls hl => ?_)
  have loop : ∀ (n0 k : Nat), k ≤ 40 → 40 + 1 ≤ k + n0 → ∀ (H : Heap) (locs : List Loc) (ls : Array Slot), hg_W D b0 L (ob_W D f oa (va_up C 5 (hs_zero (C 5) r k)) mr im mk ad n g) s.heap H locs → lv_has ls 4 [(0, .ref (oa (19 + r))), (1, .int (0)), (2, .int (nI k)), (3, .int (nI 40))] → W p l e ({ frames := 0, cells := 0, slots := 0, locals := 0 }) s m args below meth c H locs 0 0 Q (F0 m 5 ls []) := by
    intro n0
    induction n0 with
    | zero =>
      intro k h1 h2
      exact absurd h2 (by omega)
    | succ n0 ih =>
      intro k hk hn0 H locs ls w hl
      refine lv_iload_n hx hb dJ7_fill_53178_5 rfl (lv_at hl 2 rfl) ?_
      refine lv_iload_n hx hb dJ7_fill_53178_6 rfl (lv_at hl 3 rfl) ?_
      refine lv_icmp_ge (tgt := 20) hx hb dJ7_fill_53178_7 (by decide) (fun c_7 => ?_) (fun c_7 => ?_)
      · have hk : 40 = k := by
          rcases Nat.lt_or_ge k 40 with q | q
          · exact absurd c_7 (nI_ge (a := k) (b := 40) q (by omega))
          · omega
        subst hk
        exact hend H locs (L, ob_W D f oa (va_up C 5 (hs_zero (C 5) r 40)) mr im mk ad n g) _ ls w rfl dJ7_fill_53178_20
      · have hkl : k < 40 := by
          rcases Nat.lt_or_ge k 40 with q | q
          · exact q
          · exact absurd (nI_le (a := 40) (b := k) q (by omega)) c_7
        refine lv_aload_n hx hb dJ7_fill_53178_10 rfl (lv_at hl 0 rfl) ?_
        refine lv_iload_n hx hb dJ7_fill_53178_11 rfl (lv_at hl 2 rfl) ?_
        refine lv_iload_n hx hb dJ7_fill_53178_12 rfl (lv_at hl 1 rfl) ?_
        refine ob_itast X w ho hr k rfl (by omega) dJ7_fill_53178_13 (fun H locs w => ?_)
        refine lv_iinc (v := nI k + 1) (lv' := [(2, .int (nI k + 1)), (0, .ref (oa (19 + r))), (1, .int (0)), (3, .int (nI 40))]) hx hb dJ7_fill_53178_14 hl (k := 2) rfl rfl (by decide) rfl (fun ls hl => ?_)
        refine lv_goto (tgt := 5) hx hb dJ7_fill_53178_17 (by decide) ?_
        have hl := hs_lv hl (k := 0) rfl (nI_1 k)
        exact ih (k + 1) (by omega) (by omega) H locs ls (by rw [hs_up_up, hs_zero_s] at w; exact w) (lv_sub hl [1, 2, 0, 3] rfl)
  exact loop 41 0 (by omega) (by omega) H locs ls (by rw [hs_zero_0, hs_up_id]; exact w) (lv_sub hl [2, 3, 1, 0] rfl)
theorem hdJ7_fill_53178 : yJ7_fill_53178.cls ≠ "java/lang/invoke/MethodHandle" ∧ yJ7_fill_53178.cls ≠ "java/lang/invoke/VarHandle" ∧ (parseMethodDescriptor yJ7_fill_53178.desc).map (fun d => d.parameters.length) = some 2 := by decide +kernel
set_option maxRecDepth 100000 in
set_option maxHeartbeats 4000000 in
theorem c_X5_begin (l : Launch) (D : va_G) (b0 : Nat) (L : List Nat) (f : Nat → va_E) (oa : Nat → Nat) (C : Nat → Nat → Int32) (mr : Nat) (im : Nat → Option Nat) (mk : Nat) (ad : Nat → Nat) (n : Nat) (g : Nat → Int32) (hm : mk_ok L mk ad n) (hs : mk_sr g n) (ho : ob_ok L oa mk ad n) (r : Nat) (hr : r < 8) (lane size : Int32) : hg_Fv l yX5_begin wsX5_begin ({ frames := 1, cells := 0, slots := 0, locals := 23 }) D b0 L (ob_W D f oa C mr im mk ad n g) [.ref (oa (11 + r)), .int (lane), .int (size)] (ob_W D f oa (va_up (mo_w (mo_w C 3 r lane) 4 r size) 5 (hs_zero (C 5) r 40)) mr im mk ad n g) := by
  refine hg_in_v (cc := cX5_begin) (nL := 3) (by decide) rfl (Nat.le_of_ble_eq_true rfl) (fun p e s m args below meth c R Q X _ hR hend H locs ls w hl => ?_)
  subst hR
  obtain ⟨hx, hb, hml, hown, hts⟩ := id X.1
  have hin5 : ∀ w ∈ wsX50, w ∈ wsX5_begin := fun w h => List.mem_cons_of_mem _ (List.mem_append_right _ h)
  have hl : lv_has ls 3 [(0, .ref (oa (11 + r))), (1, .int (lane)), (2, .int (size))] := hl
  refine lv_aload_n hx hb dX5_begin_0 rfl (lv_at hl 0 rfl) ?_
  refine lv_iload_n hx hb dX5_begin_1 rfl (lv_at hl 1 rfl) ?_
  refine ob_put X w ho (11 + r) (by omega) (C0 := RX5) (T := TX5) (N := 3) (ci := 4) (ob_eR hr) hin5 tyX5_ok nmX5 rfl 0 (by decide) (List.mem_of_getElem? (i := 1) rfl) rfl rfl rfl (by show _ < 3; decide) 3 r (ob_eR3 hr _) (ob_oR _ _ (Or.inl rfl)) dX5_begin_2 (fun H locs w => ?_)
  refine lv_aload_n hx hb dX5_begin_5 rfl (lv_at hl 0 rfl) ?_
  refine lv_iload_n hx hb dX5_begin_6 rfl (lv_at hl 2 rfl) ?_
  refine ob_put X w ho (11 + r) (by omega) (C0 := RX5) (T := TX5) (N := 3) (ci := 4) (ob_eR hr) hin5 tyX5_ok nmX5 rfl 1 (by decide) (List.mem_of_getElem? (i := 2) rfl) rfl rfl rfl (by show _ < 3; decide) 4 r (ob_eR4 hr _) (ob_oR _ _ (Or.inr rfl)) dX5_begin_7 (fun H locs w => ?_)
  refine lv_aload_n hx hb dX5_begin_10 rfl (lv_at hl 0 rfl) ?_
  refine ob_get X w ho (11 + r) (by omega) (C0 := RX5) (T := TX5) (N := 3) (ci := 4) (ob_eR hr) hin5 rfl 2 (by decide) (List.mem_of_getElem? (i := 3) rfl) rfl rfl dX5_begin_11 ?_
  refine lv_iconst (v := 0) hx hb dX5_begin_14 (by decide) ?_
  refine hg_svF (As := [.ref (oa (19 + r)), .int (0)]) (rest := []) X w (c_J7_fill_53178 l D b0 L f oa (mo_w (mo_w C 3 r (lane)) 4 r (size)) mr im mk ad n g hm hs ho r hr) (va_cwS 2 hts gX5_begin_J7_fill_53178 rfl rfl rfl hdJ7_fill_53178 ⟨Nat.le_of_ble_eq_true rfl, Nat.le_of_ble_eq_true rfl⟩) rfl hl.1 rfl (Nat.le_of_ble_eq_true rfl) dX5_begin_15 ⟨Nat.zero_le _, Nat.zero_le _⟩ (fun H locs w => ?_)
  exact hend H locs (L, ob_W D f oa (va_up (mo_w (mo_w C 3 r (lane)) 4 r (size)) 5 (hs_zero (C 5) r 40)) mr im mk ad n g) _ ls w rfl dX5_begin_18
set_option maxRecDepth 100000 in
set_option maxHeartbeats 4000000 in
theorem c_X1_ordersFrom (l : Launch) (D : va_G) (b0 : Nat) (L : List Nat) (f : Nat → va_E) (oa : Nat → Nat) (C : Nat → Nat → Int32) (mr : Nat) (im : Nat → Option Nat) (mk : Nat) (ad : Nat → Nat) (n : Nat) (g : Nat → Int32) (hm : mk_ok L mk ad n) (hs : mk_sr g n) (ho : ob_ok L oa mk ad n) (to tk x : Int32) : hg_Fi l yX1_ordersFrom wsX1_ordersFrom ({ frames := 0, cells := 0, slots := 0, locals := 0 }) D b0 L (ob_W D f oa C mr im mk ad n g) [.ref (oa 7), .int (to), .int (tk), .int (x)] (mk_from (C 20) to tk x) (ob_W D f oa C mr im mk ad n g) := by
  refine hg_in_i (cc := cX1_ordersFrom) (nL := 6) (by decide) rfl (Nat.le_of_ble_eq_true rfl) (fun p e s m args below meth c R Q X hR hend H locs ls w hl => ?_)
  subst hR
  obtain ⟨hx, hb, hml, hown, hts⟩ := id X.1
  have hl : lv_has ls 6 [(0, .ref (oa 7)), (1, .int (to)), (2, .int (tk)), (3, .int (x))] := hl
  refine lv_iload_n hx hb dX1_ordersFrom_0 rfl (lv_at hl 1 rfl) ?_
  refine lv_iload_n hx hb dX1_ordersFrom_1 rfl (lv_at hl 2 rfl) ?_
  refine lv_iconst (v := (-1)) hx hb dX1_ordersFrom_2 (by decide) ?_
  refine lv_ixor hx hb dX1_ordersFrom_3 ?_
  refine lv_iand hx hb dX1_ordersFrom_4 ?_
  refine lv_iconst (v := 1) hx hb dX1_ordersFrom_5 (by decide) ?_
  refine lv_iload_n hx hb dX1_ordersFrom_6 rfl (lv_at hl 3 rfl) ?_
  refine lv_ishl hx hb dX1_ordersFrom_7 ?_
  refine lv_iand hx hb dX1_ordersFrom_8 ?_
  refine lv_if_eq (tgt := 16) hx hb dX1_ordersFrom_9 (by decide) (fun c_9 => ?_) (fun c_9 => ?_)
  · refine lv_iconst (v := 0) hx hb dX1_ordersFrom_16 (by decide) ?_
    refine lv_istore (lv' := [(4, .int (0)), (0, .ref (oa 7)), (1, .int (to)), (2, .int (tk)), (3, .int (x))]) hx hb dX1_ordersFrom_17 hl (by decide) rfl (fun ls hl => ?_)
    refine lv_iload_n hx hb dX1_ordersFrom_19 rfl (lv_at hl 3 rfl) ?_
    refine lv_iconst (v := 1) hx hb dX1_ordersFrom_20 (by decide) ?_
    refine lv_iload_n hx hb dX1_ordersFrom_21 rfl (lv_at hl 4 rfl) ?_
    refine lv_ishl hx hb dX1_ordersFrom_22 ?_
    refine lv_ior hx hb dX1_ordersFrom_23 ?_
    refine lv_istore (lv' := [(5, .int ((tk ||| (1 <<< (x &&& 31))))), (4, .int (0)), (0, .ref (oa 7)), (1, .int (to)), (2, .int (tk)), (3, .int (x))]) hx hb dX1_ordersFrom_24 hl (by decide) rfl (fun ls hl => ?_)
    refine lv_iload hx hb dX1_ordersFrom_26 (lv_at hl 1 rfl) ?_
    refine lv_if_eq (tgt := 50) hx hb dX1_ordersFrom_28 (by decide) (fun c_28 => ?_) (fun c_28 => ?_)
    · refine lv_iconst (v := 0) hx hb dX1_ordersFrom_50 (by decide) ?_
      exact hend H locs (0) (L, ob_W D f oa C mr im mk ad n g) _ ls w ⟨(if_pos (Or.inl c_9)).symm, rfl⟩ rfl dX1_ordersFrom_51
    · exact absurd c_28 (by decide)
  · refine lv_iconst (v := 1) hx hb dX1_ordersFrom_12 (by decide) ?_
    refine lv_goto (tgt := 17) hx hb dX1_ordersFrom_13 (by decide) ?_
    refine lv_istore (lv' := [(4, .int (1)), (0, .ref (oa 7)), (1, .int (to)), (2, .int (tk)), (3, .int (x))]) hx hb dX1_ordersFrom_17 hl (by decide) rfl (fun ls hl => ?_)
    refine lv_iload_n hx hb dX1_ordersFrom_19 rfl (lv_at hl 3 rfl) ?_
    refine lv_iconst (v := 1) hx hb dX1_ordersFrom_20 (by decide) ?_
    refine lv_iload_n hx hb dX1_ordersFrom_21 rfl (lv_at hl 4 rfl) ?_
    refine lv_ishl hx hb dX1_ordersFrom_22 ?_
    refine lv_ior hx hb dX1_ordersFrom_23 ?_
    refine lv_istore (lv' := [(5, .int ((tk ||| (1 <<< (x &&& 31))))), (4, .int (1)), (0, .ref (oa 7)), (1, .int (to)), (2, .int (tk)), (3, .int (x))]) hx hb dX1_ordersFrom_24 hl (by decide) rfl (fun ls hl => ?_)
    refine lv_iload hx hb dX1_ordersFrom_26 (lv_at hl 1 rfl) ?_
    refine lv_if_eq (tgt := 50) hx hb dX1_ordersFrom_28 (by decide) (fun c_28 => ?_) (fun c_28 => ?_)
    · exact absurd c_28 (by decide)
    · refine lv_iload hx hb dX1_ordersFrom_31 (lv_at hl 0 rfl) ?_
      refine lv_if_lt (tgt := 50) hx hb dX1_ordersFrom_33 (by decide) (fun c_33 => ?_) (fun c_33 => ?_)
      · refine lv_iconst (v := 0) hx hb dX1_ordersFrom_50 (by decide) ?_
        exact hend H locs (0) (L, ob_W D f oa C mr im mk ad n g) _ ls w ⟨(if_pos (Or.inr (Or.inl c_33))).symm, rfl⟩ rfl dX1_ordersFrom_51
      · refine lv_iload hx hb dX1_ordersFrom_36 (lv_at hl 0 rfl) ?_
        refine lv_aload_n hx hb dX1_ordersFrom_38 rfl (lv_at hl 2 rfl) ?_
        refine ob_alen X w ho 7 (by decide) (N := 64) rfl dX1_ordersFrom_39 ?_
        refine lv_icmp_ge (tgt := 50) hx hb dX1_ordersFrom_40 (by decide) (fun c_40 => ?_) (fun c_40 => ?_)
        · refine lv_iconst (v := 0) hx hb dX1_ordersFrom_50 (by decide) ?_
          exact hend H locs (0) (L, ob_W D f oa C mr im mk ad n g) _ ls w ⟨(if_pos (Or.inr (Or.inr c_40))).symm, rfl⟩ rfl dX1_ordersFrom_51
        · obtain ⟨j5, hj5, hje⟩ : ∃ q : Nat, q < 64 ∧ (tk ||| ((1 : Int32) <<< (x &&& 31))) = nI q := by
            obtain ⟨q, hq, e⟩ := nI_of c_33
            rw [e] at c_40 ⊢
            exact ⟨q, (nI_ltI (b := 64) hq (by decide)).mp (hs_lt c_40), rfl⟩
          refine lv_aload_n hx hb dX1_ordersFrom_43 rfl (lv_at hl 2 rfl) ?_
          refine lv_iload hx hb dX1_ordersFrom_44 (lv_at hl 0 rfl) ?_
          refine ob_ald X w ho 7 (by decide) (N := 64) rfl j5 hje (by omega) (by decide) dX1_ordersFrom_46 ?_
          refine lv_goto (tgt := 51) hx hb dX1_ordersFrom_47 (by decide) ?_
          exact hend H locs (C 20 j5) (L, ob_W D f oa C mr im mk ad n g) _ ls w ⟨(by unfold mk_from; rw [if_neg (fun q => q.elim c_9 (fun q => q.elim c_33 (fun q => c_40 q))), hje, nI_clamp (by omega)]), rfl⟩ rfl dX1_ordersFrom_51
theorem hdX1_ordersFrom : yX1_ordersFrom.cls ≠ "java/lang/invoke/MethodHandle" ∧ yX1_ordersFrom.cls ≠ "java/lang/invoke/VarHandle" ∧ (parseMethodDescriptor yX1_ordersFrom.desc).map (fun d => d.parameters.length) = some 4 := by decide +kernel
set_option maxRecDepth 100000 in
set_option maxHeartbeats 4000000 in
theorem c_X1_ordersBehind (l : Launch) (D : va_G) (b0 : Nat) (L : List Nat) (f : Nat → va_E) (oa : Nat → Nat) (C : Nat → Nat → Int32) (mr : Nat) (im : Nat → Option Nat) (mk : Nat) (ad : Nat → Nat) (n : Nat) (g : Nat → Int32) (hm : mk_ok L mk ad n) (hs : mk_sr g n) (ho : ob_ok L oa mk ad n) (to tk : Int32) : hg_Fi l yX1_ordersBehind wsX1_ordersBehind ({ frames := 1, cells := 0, slots := 0, locals := 25 }) D b0 L (ob_W D f oa C mr im mk ad n g) [.ref (oa 7), .int (to), .int (tk)] (mk_beh (C 20) to tk) (ob_W D f oa C mr im mk ad n g) := by
  refine hg_in_i (cc := cX1_ordersBehind) (nL := 5) (by decide) rfl (Nat.le_of_ble_eq_true rfl) (fun p e s m args below meth c R Q X hR hend H locs ls w hl => ?_)
  subst hR
  obtain ⟨hx, hb, hml, hown, hts⟩ := id X.1
  have hl : lv_has ls 5 [(0, .ref (oa 7)), (1, .int (to)), (2, .int (tk))] := hl
  refine lv_iload_n hx hb dX1_ordersBehind_0 rfl (lv_at hl 2 rfl) ?_
  refine lv_iload_n hx hb dX1_ordersBehind_1 rfl (lv_at hl 1 rfl) ?_
  refine lv_icmp_ne (tgt := 7) hx hb dX1_ordersBehind_2 (by decide) (fun c_2 => ?_) (fun c_2 => ?_)
  · refine lv_iconst (v := 0) hx hb dX1_ordersBehind_7 (by decide) ?_
    refine lv_istore_n (lv' := [(3, .int (0)), (0, .ref (oa 7)), (1, .int (to)), (2, .int (tk))]) hx hb dX1_ordersBehind_8 rfl hl (by decide) rfl (fun ls hl => ?_)
    refine lv_iconst (v := 0) hx hb dX1_ordersBehind_9 (by decide) ?_
    refine lv_istore (lv' := [(4, .int (0)), (3, .int (0)), (0, .ref (oa 7)), (1, .int (to)), (2, .int (tk))]) hx hb dX1_ordersBehind_10 hl (by decide) rfl (fun ls hl => ?_)
    have loop : ∀ (n0 k : Nat), k ≤ 6 → 6 + 1 ≤ k + n0 → ∀ (H : Heap) (locs : List Loc) (ls : Array Slot), hg_W D b0 L (ob_W D f oa C mr im mk ad n g) s.heap H locs → lv_has ls 5 [(0, .ref (oa 7)), (1, .int (to)), (2, .int (tk)), (3, .int (mk_sumF (C 20) to tk k)), (4, .int (nI k))] → W p l e ({ frames := 1, cells := 0, slots := 0, locals := 25 }) s m args below meth c H locs 0 0 Q (F0 m 12 ls []) := by
      intro n0
      induction n0 with
      | zero =>
        intro k h1 h2
        exact absurd h2 (by omega)
      | succ n0 ih =>
        intro k hk hn0 H locs ls w hl
        refine lv_iload hx hb dX1_ordersBehind_12 (lv_at hl 4 rfl) ?_
        refine lv_bipush (v := 6) hx hb dX1_ordersBehind_14 (by decide) ?_
        refine lv_icmp_ge (tgt := 36) hx hb dX1_ordersBehind_16 (by decide) (fun c_16 => ?_) (fun c_16 => ?_)
        · have hk : 6 = k := by
            rcases Nat.lt_or_ge k 6 with q | q
            · exact absurd c_16 (nI_ge (a := k) (b := 6) q (by omega))
            · omega
          subst hk
          refine lv_iload_n hx hb dX1_ordersBehind_36 rfl (lv_at hl 3 rfl) ?_
          exact hend H locs (mk_sumF (C 20) to tk 6) (L, ob_W D f oa C mr im mk ad n g) _ ls w ⟨(if_neg c_2).symm, rfl⟩ rfl dX1_ordersBehind_37
        · have hkl : k < 6 := by
            rcases Nat.lt_or_ge k 6 with q | q
            · exact q
            · exact absurd (nI_le (a := 6) (b := k) q (by omega)) c_16
          refine lv_iload_n hx hb dX1_ordersBehind_19 rfl (lv_at hl 3 rfl) ?_
          refine lv_aload_n hx hb dX1_ordersBehind_20 rfl (lv_at hl 0 rfl) ?_
          refine lv_iload_n hx hb dX1_ordersBehind_21 rfl (lv_at hl 1 rfl) ?_
          refine lv_iload_n hx hb dX1_ordersBehind_22 rfl (lv_at hl 2 rfl) ?_
          refine lv_iload hx hb dX1_ordersBehind_23 (lv_at hl 4 rfl) ?_
          refine hg_siF (r := (mk_from (C 20) to tk (nI k))) (As := [.ref (oa 7), .int (to), .int (tk), .int (nI k)]) (rest := [.int (mk_sumF (C 20) to tk k)]) X w (c_X1_ordersFrom l D b0 L f oa C mr im mk ad n g hm hs ho to tk (nI k)) (va_cwS 4 hts gX1_ordersBehind_X1_ordersFrom rfl rfl rfl hdX1_ordersFrom ⟨Nat.le_of_ble_eq_true rfl, Nat.le_of_ble_eq_true rfl⟩) rfl hl.1 rfl (Nat.le_of_ble_eq_true rfl) dX1_ordersBehind_25 ⟨Nat.zero_le _, Nat.zero_le _⟩ (fun H locs w => ?_)
          refine lv_iadd hx hb dX1_ordersBehind_28 ?_
          refine lv_istore_n (lv' := [(3, .int ((mk_sumF (C 20) to tk k + (mk_from (C 20) to tk (nI k))))), (0, .ref (oa 7)), (1, .int (to)), (2, .int (tk)), (4, .int (nI k))]) hx hb dX1_ordersBehind_29 rfl hl (by decide) rfl (fun ls hl => ?_)
          refine lv_iinc (v := nI k + 1) (lv' := [(4, .int (nI k + 1)), (3, .int ((mk_sumF (C 20) to tk k + (mk_from (C 20) to tk (nI k))))), (0, .ref (oa 7)), (1, .int (to)), (2, .int (tk))]) hx hb dX1_ordersBehind_30 hl (k := 4) rfl rfl (by decide) rfl (fun ls hl => ?_)
          refine lv_goto (tgt := 12) hx hb dX1_ordersBehind_33 (by decide) ?_
          have he3 : (mk_sumF (C 20) to tk k + (mk_from (C 20) to tk (nI k))) = mk_sumF (C 20) to tk (k + 1) := by rfl
          have hl := hs_lv hl (k := 1) rfl he3
          have hl := hs_lv hl (k := 0) rfl (nI_1 k)
          exact ih (k + 1) (by omega) (by omega) H locs ls w (lv_sub hl [2, 3, 4, 1, 0] rfl)
    exact loop 7 0 (by omega) (by omega) H locs ls w (lv_sub hl [2, 3, 4, 1, 0] rfl)
  · refine lv_iconst (v := 1) hx hb dX1_ordersBehind_5 (by decide) ?_
    exact hend H locs (1) (L, ob_W D f oa C mr im mk ad n g) _ ls w ⟨(if_pos c_2).symm, rfl⟩ rfl dX1_ordersBehind_6
