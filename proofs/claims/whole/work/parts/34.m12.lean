set_option maxRecDepth 100000 in
set_option maxHeartbeats 4000000 in
/-- takes -/
theorem c_X12_takes (l : Launch) (D : va_G) (b0 : Nat) (L : List Nat) (f : Nat → va_E) (mo : Nat) (ma : Nat → Nat) (M : Nat → Nat → Int32) (hm : mo_ok L mo ma) (t : Nat) (ht : M 9 0 = nI t) (ht1 : t ≤ 100) (S : ps_S) (hS : S.2.1 ≤ t) (ch : Int32) : mo_Fi l yX12_takes wsX12_takes ({ frames := 1, cells := 0, slots := 0, locals := 21 }) D b0 L f mo ma ((mo_ps M S)) [.int (ch)] ((ps_takes M ch S).1) (mo_ps M (ps_takes M ch S).2) := by
  refine hg_in_i (cc := cX12_takes) (nL := 3) (by decide) rfl (Nat.le_of_ble_eq_true rfl) (fun p e s m args below meth c R Q X hR hend H locs ls w hl => ?_)
  subst hR
  obtain ⟨hx, hb, hml, hown, hts⟩ := id X.1
  have hin : ∀ w ∈ wsX120, w ∈ wsX12_takes := fun w h => List.mem_cons_of_mem _ (List.mem_append_right _ h)
  have hl : lv_has ls 3 [(0, .ref mo), (1, .int (ch))] := hl
  refine lv_aload_n hx hb dX12_takes_0 rfl (lv_at hl 0 rfl) ?_
  refine lv_aload_n hx hb dX12_takes_1 rfl (lv_at hl 0 rfl) ?_
  refine mo_get (v := .int (nI S.2.1)) X w hm hin 11 (by decide) (List.mem_of_getElem? (i := 1) rfl) rfl dX12_takes_2 ?_
  refine mo_put X w hm hin 12 (by decide) (List.mem_of_getElem? (i := 2) rfl) dX12_takes_5 (fun H locs w => ?_)
  rw [mo_ps, mo_rd_12] at w
  have w : hg_W D b0 L (mo_F D f mo ma (mo_ps M (S.1, S.2.1, S.2.1, S.2.2.2.1, S.2.2.2.2))) s.heap H locs := w
  refine lv_aload_n hx hb dX12_takes_8 rfl (lv_at hl 0 rfl) ?_
  refine lv_iconst (v := 1) hx hb dX12_takes_9 (by decide) ?_
  refine mo_put X w hm hin 13 (by decide) (List.mem_of_getElem? (i := 3) rfl) dX12_takes_10 (fun H locs w => ?_)
  rw [mo_ps, mo_rd_13] at w
  have w : hg_W D b0 L (mo_F D f mo ma (mo_ps M (S.1, S.2.1, S.2.1, 1, S.2.2.2.2))) s.heap H locs := w
  refine lv_aload_n hx hb dX12_takes_13 rfl (lv_at hl 0 rfl) ?_
  refine lv_aload_n hx hb dX12_takes_14 rfl (lv_at hl 0 rfl) ?_
  refine mo_get (v := .int (nI S.2.1)) X w hm hin 11 (by decide) (List.mem_of_getElem? (i := 1) rfl) rfl dX12_takes_15 ?_
  refine hg_viF (r := (hs_byte M S.2.1)) (As := [.int (nI S.2.1)]) (rest := []) X w (c_X12_byteAt l D b0 L f mo ma (mo_ps M (S.1, S.2.1, S.2.1, 1, S.2.2.2.2)) hm t ht ht1 S.2.1 (by omega)) (cwV 1 hts gX12_takes_X12_byteAt rfl rfl rfl hdX12_byteAt ⟨Nat.le_of_ble_eq_true rfl, Nat.le_of_ble_eq_true rfl⟩) hm.1 (mo_at0 D f mo ma _) rfl rfl rfl hl.1 rfl (Nat.le_of_ble_eq_true rfl) dX12_takes_18 ⟨Nat.zero_le _, Nat.zero_le _⟩ (fun H locs w => ?_)
  refine lv_iload_n hx hb dX12_takes_21 rfl (lv_at hl 1 rfl) ?_
  refine lv_icmp_ne (tgt := 29) hx hb dX12_takes_22 (by decide) (fun c_22 => ?_) (fun c_22 => ?_)
  · refine lv_iconst (v := 0) hx hb dX12_takes_29 (by decide) ?_
    refine lv_istore_n (lv' := [(2, .int (0)), (0, .ref mo), (1, .int (ch))]) hx hb dX12_takes_30 rfl hl (by decide) rfl (fun ls hl => ?_)
    refine lv_aload_n hx hb dX12_takes_31 rfl (lv_at hl 1 rfl) ?_
    refine lv_dup hx hb dX12_takes_32 rfl ?_
    refine mo_get (v := .int (nI S.2.1)) X w hm hin 11 (by decide) (List.mem_of_getElem? (i := 1) rfl) rfl dX12_takes_33 ?_
    refine lv_iload_n hx hb dX12_takes_36 rfl (lv_at hl 0 rfl) ?_
    refine lv_if_eq (tgt := 44) hx hb dX12_takes_37 (by decide) (fun c_37 => ?_) (fun c_37 => ?_)
    · refine lv_iconst (v := 0) hx hb dX12_takes_44 (by decide) ?_
      refine lv_iadd hx hb dX12_takes_45 ?_
      refine mo_put X w hm hin 11 (by decide) (List.mem_of_getElem? (i := 1) rfl) dX12_takes_46 (fun H locs w => ?_)
      rw [mo_ps, mo_rd_11, show (nI S.2.1 + 0) = nI (S.2.1) from (by simp)] at w
      have w : hg_W D b0 L (mo_F D f mo ma (mo_ps M (S.1, S.2.1, S.2.1, 1, S.2.2.2.2))) s.heap H locs := w
      refine lv_iload_n hx hb dX12_takes_49 rfl (lv_at hl 0 rfl) ?_
      exact hend H locs (0) (L, mo_F D f mo ma (mo_ps M (S.1, S.2.1, S.2.1, 1, S.2.2.2.2))) _ ls w ⟨(by unfold ps_takes; rw [if_neg c_22]), (congrArg (fun z => (L, mo_F D f mo ma (mo_ps M z))) (by unfold ps_takes; rw [if_neg c_22]))⟩ (by decide) dX12_takes_50
    · exact absurd c_37 (by decide)
  · refine lv_iconst (v := 1) hx hb dX12_takes_25 (by decide) ?_
    refine lv_goto (tgt := 30) hx hb dX12_takes_26 (by decide) ?_
    refine lv_istore_n (lv' := [(2, .int (1)), (0, .ref mo), (1, .int (ch))]) hx hb dX12_takes_30 rfl hl (by decide) rfl (fun ls hl => ?_)
    refine lv_aload_n hx hb dX12_takes_31 rfl (lv_at hl 1 rfl) ?_
    refine lv_dup hx hb dX12_takes_32 rfl ?_
    refine mo_get (v := .int (nI S.2.1)) X w hm hin 11 (by decide) (List.mem_of_getElem? (i := 1) rfl) rfl dX12_takes_33 ?_
    refine lv_iload_n hx hb dX12_takes_36 rfl (lv_at hl 0 rfl) ?_
    refine lv_if_eq (tgt := 44) hx hb dX12_takes_37 (by decide) (fun c_37 => ?_) (fun c_37 => ?_)
    · exact absurd c_37 (by decide)
    · refine lv_iconst (v := 1) hx hb dX12_takes_40 (by decide) ?_
      refine lv_goto (tgt := 45) hx hb dX12_takes_41 (by decide) ?_
      refine lv_iadd hx hb dX12_takes_45 ?_
      refine mo_put X w hm hin 11 (by decide) (List.mem_of_getElem? (i := 1) rfl) dX12_takes_46 (fun H locs w => ?_)
      rw [mo_ps, mo_rd_11, show (nI S.2.1 + 1) = nI (S.2.1 + 1) from (nI_1 _)] at w
      have w : hg_W D b0 L (mo_F D f mo ma (mo_ps M (S.1, S.2.1 + 1, S.2.1, 1, S.2.2.2.2))) s.heap H locs := w
      refine lv_iload_n hx hb dX12_takes_49 rfl (lv_at hl 0 rfl) ?_
      exact hend H locs (1) (L, mo_F D f mo ma (mo_ps M (S.1, S.2.1 + 1, S.2.1, 1, S.2.2.2.2))) _ ls w ⟨(by unfold ps_takes; rw [if_pos c_22]), (congrArg (fun z => (L, mo_F D f mo ma (mo_ps M z))) (by unfold ps_takes; rw [if_pos c_22]))⟩ (by decide) dX12_takes_50
