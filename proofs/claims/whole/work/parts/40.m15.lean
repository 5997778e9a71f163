theorem hdX12_isMarket : yX12_isMarket.cls = RX12 ∧ yX12_isMarket.cls ≠ "java/lang/invoke/MethodHandle" ∧ yX12_isMarket.cls ≠ "java/lang/invoke/VarHandle" ∧ (parseMethodDescriptor yX12_isMarket.desc).map (fun d => d.parameters.length) = some 0 := by decide +kernel
set_option maxRecDepth 100000 in
set_option maxHeartbeats 4000000 in
/-- market -/
theorem c_X12_market (l : Launch) (D : va_G) (b0 : Nat) (L : List Nat) (f : Nat → va_E) (mo : Nat) (ma : Nat → Nat) (M : Nat → Nat → Int32) (hm : mo_ok L mo ma) (t : Nat) (ht : M 9 0 = nI t) (ht1 : t ≤ 100) (s0 : Nat) (hs0 : M 12 0 = nI s0) : mo_Fi l yX12_market wsX12_market ({ frames := 5, cells := 0, slots := 0, locals := 112 }) D b0 L f mo ma M [] ((sp_market M t s0).1) ((sp_market M t s0).2) := by
  refine hg_in_i (cc := cX12_market) (nL := 3) (by decide) rfl (Nat.le_of_ble_eq_true rfl) (fun p e s m args below meth c R Q X hR hend H locs ls w hl => ?_)
  subst hR
  obtain ⟨hx, hb, hml, hown, hts⟩ := id X.1
  have hin : ∀ w ∈ wsX120, w ∈ wsX12_market := fun w h => List.mem_cons_of_mem _ (List.mem_append_right _ h)
  have hl : lv_has ls 3 [(0, .ref mo)] := hl
  obtain ⟨b, X0, hT⟩ : ∃ (b : Int32) (X0 : ps_S), ps_market M t s0 = (b, X0) := by
    cases ps_market M t s0 with
    | mk b X0 => exact ⟨b, X0, rfl⟩
  refine lv_aload_n hx hb dX12_market_0 rfl (lv_at hl 0 rfl) ?_
  refine hg_viF (r := b) (As := []) (rest := []) X w (by have h := c_X12_isMarket l D b0 L f mo ma M hm t ht ht1 s0 hs0; rw [hT] at h; exact h) (cwV 0 hts gX12_market_X12_isMarket rfl rfl rfl hdX12_isMarket ⟨Nat.le_of_ble_eq_true rfl, Nat.le_of_ble_eq_true rfl⟩) hm.1 (mo_at0 D f mo ma _) rfl rfl rfl hl.1 rfl (Nat.le_of_ble_eq_true rfl) dX12_market_1 ⟨Nat.zero_le _, Nat.zero_le _⟩ (fun H locs w => ?_)
  refine lv_istore_n (lv' := [(1, .int (b)), (0, .ref mo)]) hx hb dX12_market_4 rfl hl (by decide) rfl (fun ls hl => ?_)
  refine lv_aload_n hx hb dX12_market_5 rfl (lv_at hl 1 rfl) ?_
  refine lv_iconst (v := 0) hx hb dX12_market_6 (by decide) ?_
  refine mo_put X w hm hin 9 (by decide) (List.mem_of_getElem? (i := 1) rfl) dX12_market_7 (fun H locs w => ?_)
  have w : hg_W D b0 L (mo_F D f mo ma (mo_mk M X0)) s.heap H locs := w
  refine lv_iload_n hx hb dX12_market_10 rfl (lv_at hl 0 rfl) ?_
  refine lv_if_ne (tgt := 30) hx hb dX12_market_11 (by decide) (fun c_11 => ?_) (fun c_11 => ?_)
  · refine lv_iconst (v := 0) hx hb dX12_market_30 (by decide) ?_
    refine lv_istore_n (lv' := [(2, .int (0)), (1, .int (b)), (0, .ref mo)]) hx hb dX12_market_31 rfl hl (by decide) rfl (fun ls hl => ?_)
    have w : hg_W D b0 L (mo_F D f mo ma (mo_mk M X0)) s.heap H locs := w
    have cp1 : ∀ (n0 k : Nat), k ≤ 50 → 50 + 1 ≤ k + n0 → ∀ (H : Heap) (locs : List Loc) (ls : Array Slot), hg_W D b0 L (mo_F D f mo ma (va_up (mo_mk M X0) 0 (hs_blk ((mo_mk M X0) 0) (0) (150) k))) s.heap H locs → lv_has ls 3 [(0, .ref mo), (1, .int (b)), (2, .int (nI k))] → W p l e ({ frames := 5, cells := 0, slots := 0, locals := 112 }) s m args below meth c H locs 0 0 Q (F0 m 32 ls []) := by
      intro n0
      induction n0 with
      | zero =>
        intro k h1 h2
        exact absurd h2 (by omega)
      | succ n0 ihcp1 =>
        intro k hk hn0 H locs ls w hl
        refine lv_iload_n hx hb dX12_market_32 rfl (lv_at hl 2 rfl) ?_
        refine lv_bipush (v := 50) hx hb dX12_market_33 (by decide) ?_
        refine lv_icmp_ge (tgt := 60) hx hb dX12_market_35 (by decide) (fun c_35 => ?_) (fun c_35 => ?_)
        · have hk : 50 = k := by
            rcases Nat.lt_or_ge k 50 with q | q
            · exact absurd c_35 (nI_ge (a := k) (b := 50) q (by omega))
            · omega
          subst hk
          refine lv_aload_n hx hb dX12_market_60 rfl (lv_at hl 0 rfl) ?_
          refine mo_get X w hm hin 0 (by decide) (List.mem_of_getElem? (i := 6) rfl) rfl dX12_market_61 ?_
          refine lv_iconst (v := 4) hx hb dX12_market_64 (by decide) ?_
          refine lv_iconst (v := 1) hx hb dX12_market_65 (by decide) ?_
          refine mo_iast X w hm 0 (by decide) (by decide) 4 rfl (by show _ < 1400; omega) dX12_market_66 (fun H locs w => ?_)
          refine lv_aload_n hx hb dX12_market_67 rfl (lv_at hl 0 rfl) ?_
          refine lv_iconst (v := 0) hx hb dX12_market_68 (by decide) ?_
          refine mo_put X w hm hin 1 (by decide) (List.mem_of_getElem? (i := 7) rfl) dX12_market_69 (fun H locs w => ?_)
          refine lv_aload_n hx hb dX12_market_72 rfl (lv_at hl 0 rfl) ?_
          refine mo_get X w hm hin 0 (by decide) (List.mem_of_getElem? (i := 6) rfl) rfl dX12_market_73 ?_
          refine lv_iconst (v := 3) hx hb dX12_market_76 (by decide) ?_
          refine mo_iald X w hm 0 (by decide) (by decide) 3 rfl (by show _ < 1400; omega) dX12_market_77 ?_
          exact hend H locs ((mo_w (mo_w (va_up (mo_mk M X0) 0 (hs_blk ((mo_mk M X0) 0) (0) (150) 50)) 0 4 (1)) 1 0 (0)) 0 3) (L, mo_F D f mo ma (mo_w (mo_w (va_up (mo_mk M X0) 0 (hs_blk ((mo_mk M X0) 0) (0) (150) 50)) 0 4 (1)) 1 0 (0))) _ ls w ⟨(by rw [mo_mk_3]; simp [sp_market, hT, c_11]), (congrArg (fun z => (L, mo_F D f mo ma z)) (by simp [sp_market, hT, c_11]))⟩ rfl dX12_market_78
        · have hkl : k < 50 := by
            rcases Nat.lt_or_ge k 50 with q | q
            · exact q
            · exact absurd (nI_le (a := 50) (b := k) q (by omega)) c_35
          refine lv_aload_n hx hb dX12_market_38 rfl (lv_at hl 0 rfl) ?_
          refine mo_get X w hm hin 0 (by decide) (List.mem_of_getElem? (i := 6) rfl) rfl dX12_market_39 ?_
          refine lv_iload_n hx hb dX12_market_42 rfl (lv_at hl 2 rfl) ?_
          refine lv_aload_n hx hb dX12_market_43 rfl (lv_at hl 0 rfl) ?_
          refine mo_get X w hm hin 0 (by decide) (List.mem_of_getElem? (i := 6) rfl) rfl dX12_market_44 ?_
          refine lv_sipush (v := 150) hx hb dX12_market_47 (by decide) ?_
          refine lv_iload_n hx hb dX12_market_50 rfl (lv_at hl 2 rfl) ?_
          refine lv_iadd hx hb dX12_market_51 ?_
          refine mo_iald X w hm 0 (by decide) (by decide) (150 + k) (hs_addI rfl rfl) (by show _ < 1400; omega) dX12_market_52 ?_
          refine mo_iast X w hm 0 (by decide) (by decide) (0 + k) (by rw [Nat.zero_add]) (by show _ < 1400; omega) dX12_market_53 (fun H locs w => ?_)
          refine lv_iinc (v := nI k + 1) (lv' := [(2, .int (nI k + 1)), (0, .ref mo), (1, .int (b))]) hx hb dX12_market_54 hl (k := 2) rfl rfl (by decide) rfl (fun ls hl => ?_)
          refine lv_goto (tgt := 32) hx hb dX12_market_57 (by decide) ?_
          have hl := hs_lv hl (k := 0) rfl (nI_1 k)
          exact ihcp1 (k + 1) (by omega) (by omega) H locs ls (by rw [hs_up_up, show va_up (hs_blk ((mo_mk M X0) 0) (0) (150) k) ((0) + k) (va_up (mo_mk M X0) 0 (hs_blk ((mo_mk M X0) 0) (0) (150) k) 0 ((150) + k)) = hs_blk ((mo_mk M X0) 0) (0) (150) (k + 1) from hs_blk_s _ (by omega)] at w; exact w) (lv_sub hl [1, 2, 0] rfl)
    exact cp1 (50 + 1) 0 (by omega) (by omega) H locs ls (by rw [hs_blk_0, hs_up_id]; exact w) (lv_sub hl [2, 1, 0] rfl)
  · refine lv_aload_n hx hb dX12_market_14 rfl (lv_at hl 1 rfl) ?_
    refine lv_aload_n hx hb dX12_market_15 rfl (lv_at hl 1 rfl) ?_
    refine mo_get X w hm hin 13 (by decide) (List.mem_of_getElem? (i := 2) rfl) rfl dX12_market_16 ?_
    refine mo_put X w hm hin 10 (by decide) (List.mem_of_getElem? (i := 3) rfl) dX12_market_19 (fun H locs w => ?_)
    refine lv_ldc (v := (-1000100)) hx hb hown (hts _ (List.mem_of_getElem? (i := 4) rfl)) dX12_market_22 ?_
    refine lv_aload_n hx hb dX12_market_24 rfl (lv_at hl 1 rfl) ?_
    refine mo_get X w hm hin 12 (by decide) (List.mem_of_getElem? (i := 5) rfl) rfl dX12_market_25 ?_
    refine lv_isub hx hb dX12_market_28 ?_
    exact hend H locs (((-1000100) - (mo_w (mo_mk M X0) 10 0 ((mo_mk M X0) 13 0)) 12 0)) (L, mo_F D f mo ma (mo_w (mo_mk M X0) 10 0 ((mo_mk M X0) 13 0))) _ ls w ⟨(by rw [mo_mk_12]; simp [sp_market, hT, c_11]), (congrArg (fun z => (L, mo_F D f mo ma z)) (by rw [mo_mk_13]; simp [sp_market, hT, c_11]))⟩ rfl dX12_market_29
