/-! the reference's leaves: no world, or one step -/
set_option maxRecDepth 100000 in
set_option maxHeartbeats 4000000 in
/-- in -/
theorem c_X12_in (l : Launch) (D : va_G) (b0 : Nat) (L : List Nat) (f : Nat → va_E) (v lo hi : Int64) (x a b : Int32) (hv : v = x.toInt64) (hlo : lo = a.toInt64) (hhi : hi = b.toInt64) : hg_Fi l yX12_in wsX12_in ({ frames := 0, cells := 0, slots := 0, locals := 0 }) D b0 L f [.long (v), .long (lo), .long (hi)] (hs_in x a b) f := by
  refine hg_in_i (cc := cX12_in) (nL := 6) (by decide) rfl (Nat.le_of_ble_eq_true rfl) (fun p e s m args below meth c R Q X hR hend H locs ls w hl => ?_)
  subst hR
  obtain ⟨hx, hb, hml, hown, hts⟩ := id X.1
  have hl : lv_has ls 6 [(0, .long (v)), (2, .long (lo)), (4, .long (hi))] := hl
  refine lv_lload_n hx hb dX12_in_0 rfl (lv_at hl 0 rfl) ?_
  refine lv_lload_n hx hb dX12_in_1 rfl (lv_at hl 1 rfl) ?_
  refine W.lcmp hx hb dX12_in_2 ?_
  refine lv_if_lt (tgt := 17) hx hb dX12_in_3 (by decide) (fun c_3 => ?_) (fun c_3 => ?_)
  · refine lv_iconst (v := 0) hx hb dX12_in_17 (by decide) ?_
    exact hend H locs (0) (L, f) _ ls w ⟨hs_in_no1 hv hlo hhi c_3, rfl⟩ (by decide) dX12_in_18
  · refine lv_lload_n hx hb dX12_in_6 rfl (lv_at hl 0 rfl) ?_
    refine lv_lload hx hb dX12_in_7 (lv_at hl 2 rfl) ?_
    refine W.lcmp hx hb dX12_in_9 ?_
    refine lv_if_gt (tgt := 17) hx hb dX12_in_10 (by decide) (fun c_10 => ?_) (fun c_10 => ?_)
    · refine lv_iconst (v := 0) hx hb dX12_in_17 (by decide) ?_
      exact hend H locs (0) (L, f) _ ls w ⟨hs_in_no2 hv hlo hhi c_10, rfl⟩ (by decide) dX12_in_18
    · refine lv_iconst (v := 1) hx hb dX12_in_13 (by decide) ?_
      refine lv_goto (tgt := 18) hx hb dX12_in_14 (by decide) ?_
      exact hend H locs (1) (L, f) _ ls w ⟨hs_in_yes hv hlo hhi c_3 c_10, rfl⟩ (by decide) dX12_in_18
set_option maxRecDepth 100000 in
set_option maxHeartbeats 4000000 in
/-- has -/
theorem c_X12_has (l : Launch) (D : va_G) (b0 : Nat) (L : List Nat) (f : Nat → va_E) (set k : Int32) : hg_Fi l yX12_has wsX12_has ({ frames := 0, cells := 0, slots := 0, locals := 0 }) D b0 L f [.int (set), .int (k)] (hs_has set k) f := by
  refine hg_in_i (cc := cX12_has) (nL := 2) (by decide) rfl (Nat.le_of_ble_eq_true rfl) (fun p e s m args below meth c R Q X hR hend H locs ls w hl => ?_)
  subst hR
  obtain ⟨hx, hb, hml, hown, hts⟩ := id X.1
  have hl : lv_has ls 2 [(0, .int (set)), (1, .int (k))] := hl
  refine lv_iload_n hx hb dX12_has_0 rfl (lv_at hl 0 rfl) ?_
  refine lv_iload_n hx hb dX12_has_1 rfl (lv_at hl 1 rfl) ?_
  refine lv_ishr hx hb dX12_has_2 ?_
  refine lv_iconst (v := 1) hx hb dX12_has_3 (by decide) ?_
  refine lv_iand hx hb dX12_has_4 ?_
  refine lv_iconst (v := 1) hx hb dX12_has_5 (by decide) ?_
  refine lv_icmp_ne (tgt := 13) hx hb dX12_has_6 (by decide) (fun c_6 => ?_) (fun c_6 => ?_)
  · refine lv_iconst (v := 0) hx hb dX12_has_13 (by decide) ?_
    exact hend H locs (0) (L, f) _ ls w ⟨(by (try simp only [lg_cmp_le, lg_cmp_ge, lg_cmp_lt, lg_cmp_gt, ← Int32.not_lt, ← Int64.not_lt, Classical.not_not] at c_6); first | (simp [hs_has, c_6]; done) | (simp [hs_has, c_6]; done) | (exfalso; clear hend; simp_all; done)), rfl⟩ (by decide) dX12_has_14
  · refine lv_iconst (v := 1) hx hb dX12_has_9 (by decide) ?_
    refine lv_goto (tgt := 14) hx hb dX12_has_10 (by decide) ?_
    exact hend H locs (1) (L, f) _ ls w ⟨(by (try simp only [lg_cmp_le, lg_cmp_ge, lg_cmp_lt, lg_cmp_gt, ← Int32.not_lt, ← Int64.not_lt, Classical.not_not] at c_6); first | (simp [hs_has, c_6]; done) | (simp [hs_has, eq_true c_6]; done) | (exfalso; clear hend; simp_all; done)), rfl⟩ (by decide) dX12_has_14
set_option maxRecDepth 100000 in
set_option maxHeartbeats 4000000 in
/-- lesser -/
theorem c_X12_lesser (l : Launch) (D : va_G) (b0 : Nat) (L : List Nat) (f : Nat → va_E) (a b : Int32) : hg_Fi l yX12_lesser wsX12_lesser ({ frames := 0, cells := 0, slots := 0, locals := 0 }) D b0 L f [.int (a), .int (b)] (hs_less a b) f := by
  refine hg_in_i (cc := cX12_lesser) (nL := 2) (by decide) rfl (Nat.le_of_ble_eq_true rfl) (fun p e s m args below meth c R Q X hR hend H locs ls w hl => ?_)
  subst hR
  obtain ⟨hx, hb, hml, hown, hts⟩ := id X.1
  have hl : lv_has ls 2 [(0, .int (a)), (1, .int (b))] := hl
  refine lv_iload_n hx hb dX12_lesser_0 rfl (lv_at hl 0 rfl) ?_
  refine lv_iload_n hx hb dX12_lesser_1 rfl (lv_at hl 1 rfl) ?_
  refine lv_icmp_ge (tgt := 9) hx hb dX12_lesser_2 (by decide) (fun c_2 => ?_) (fun c_2 => ?_)
  · refine lv_iload_n hx hb dX12_lesser_9 rfl (lv_at hl 1 rfl) ?_
    exact hend H locs (b) (L, f) _ ls w ⟨(by rw [hs_less, if_neg (hs_nlt c_2)]), rfl⟩ rfl dX12_lesser_10
  · refine lv_iload_n hx hb dX12_lesser_5 rfl (lv_at hl 0 rfl) ?_
    refine lv_goto (tgt := 10) hx hb dX12_lesser_6 (by decide) ?_
    exact hend H locs (a) (L, f) _ ls w ⟨(by rw [hs_less, if_pos (hs_lt c_2)]), rfl⟩ rfl dX12_lesser_10
set_option maxRecDepth 100000 in
set_option maxHeartbeats 4000000 in
/-- cutTo -/
theorem c_X12_cutTo (l : Launch) (D : va_G) (b0 : Nat) (L : List Nat) (f : Nat → va_E) (lane v : Int32) : hg_Fi l yX12_cutTo wsX12_cutTo ({ frames := 0, cells := 0, slots := 0, locals := 0 }) D b0 L f [.int (lane), .int (v)] (hs_cut lane v) f := by
  refine hg_in_i (cc := cX12_cutTo) (nL := 2) (by decide) rfl (Nat.le_of_ble_eq_true rfl) (fun p e s m args below meth c R Q X hR hend H locs ls w hl => ?_)
  subst hR
  obtain ⟨hx, hb, hml, hown, hts⟩ := id X.1
  have hl : lv_has ls 2 [(0, .int (lane)), (1, .int (v))] := hl
  refine lv_iload_n hx hb dX12_cutTo_0 rfl (lv_at hl 0 rfl) ?_
  refine lv_if_ne (tgt := 9) hx hb dX12_cutTo_1 (by decide) (fun c_1 => ?_) (fun c_1 => ?_)
  · refine lv_iload_n hx hb dX12_cutTo_9 rfl (lv_at hl 0 rfl) ?_
    refine lv_iconst (v := 1) hx hb dX12_cutTo_10 (by decide) ?_
    refine lv_icmp_ne (tgt := 19) hx hb dX12_cutTo_11 (by decide) (fun c_11 => ?_) (fun c_11 => ?_)
    · refine lv_iload_n hx hb dX12_cutTo_19 rfl (lv_at hl 1 rfl) ?_
      exact hend H locs (v) (L, f) _ ls w ⟨(by (try simp only [lg_cmp_le, lg_cmp_ge, lg_cmp_lt, lg_cmp_gt, ← Int32.not_lt, ← Int64.not_lt, Classical.not_not] at c_1 c_11); first | (simp [hs_cut, c_1, c_11]; done) | (simp [hs_cut, c_1, c_11]; done) | (exfalso; clear hend; simp_all; done)), rfl⟩ rfl dX12_cutTo_20
    · refine lv_iload_n hx hb dX12_cutTo_14 rfl (lv_at hl 1 rfl) ?_
      refine lv_i2s hx hb dX12_cutTo_15 rfl ?_
      refine lv_goto (tgt := 20) hx hb dX12_cutTo_16 (by decide) ?_
      exact hend H locs ((v).toInt16.toInt32) (L, f) _ ls w ⟨(by (try simp only [lg_cmp_le, lg_cmp_ge, lg_cmp_lt, lg_cmp_gt, ← Int32.not_lt, ← Int64.not_lt, Classical.not_not] at c_1 c_11); first | (simp [hs_cut, c_1, c_11]; done) | (simp [hs_cut, c_1, eq_true c_11]; done) | (exfalso; clear hend; simp_all; done)), rfl⟩ rfl dX12_cutTo_20
  · refine lv_iload_n hx hb dX12_cutTo_4 rfl (lv_at hl 1 rfl) ?_
    refine lv_i2b hx hb dX12_cutTo_5 rfl ?_
    refine lv_goto (tgt := 20) hx hb dX12_cutTo_6 (by decide) ?_
    exact hend H locs ((v).toInt8.toInt32) (L, f) _ ls w ⟨(by (try simp only [lg_cmp_le, lg_cmp_ge, lg_cmp_lt, lg_cmp_gt, ← Int32.not_lt, ← Int64.not_lt, Classical.not_not] at c_1); first | (simp [hs_cut, c_1]; done) | (simp [hs_cut, eq_true c_1]; done) | (exfalso; clear hend; simp_all; done)), rfl⟩ rfl dX12_cutTo_20
set_option maxRecDepth 100000 in
set_option maxHeartbeats 4000000 in
/-- sortOf -/
theorem c_X12_sortOf (l : Launch) (D : va_G) (b0 : Nat) (L : List Nat) (f : Nat → va_E) (c0 : Int32) : hg_Fi l yX12_sortOf wsX12_sortOf ({ frames := 0, cells := 0, slots := 0, locals := 0 }) D b0 L f [.int (c0)] (hs_sort c0) f := by
  refine hg_in_i (cc := cX12_sortOf) (nL := 1) (by decide) rfl (Nat.le_of_ble_eq_true rfl) (fun p e s m args below meth c R Q X hR hend H locs ls w hl => ?_)
  subst hR
  obtain ⟨hx, hb, hml, hown, hts⟩ := id X.1
  have hl : lv_has ls 1 [(0, .int (c0))] := hl
  refine lv_iload_n hx hb dX12_sortOf_0 rfl (lv_at hl 0 rfl) ?_
  refine lv_bipush (v := 116) hx hb dX12_sortOf_1 (by decide) ?_
  refine lv_icmp_ne (tgt := 10) hx hb dX12_sortOf_3 (by decide) (fun c_3 => ?_) (fun c_3 => ?_)
  · refine lv_iload_n hx hb dX12_sortOf_10 rfl (lv_at hl 0 rfl) ?_
    refine lv_bipush (v := 106) hx hb dX12_sortOf_11 (by decide) ?_
    refine lv_icmp_ne (tgt := 20) hx hb dX12_sortOf_13 (by decide) (fun c_13 => ?_) (fun c_13 => ?_)
    · refine lv_iload_n hx hb dX12_sortOf_20 rfl (lv_at hl 0 rfl) ?_
      refine lv_bipush (v := 98) hx hb dX12_sortOf_21 (by decide) ?_
      refine lv_icmp_ne (tgt := 30) hx hb dX12_sortOf_23 (by decide) (fun c_23 => ?_) (fun c_23 => ?_)
      · refine lv_iload_n hx hb dX12_sortOf_30 rfl (lv_at hl 0 rfl) ?_
        refine lv_bipush (v := 110) hx hb dX12_sortOf_31 (by decide) ?_
        refine lv_icmp_ne (tgt := 40) hx hb dX12_sortOf_33 (by decide) (fun c_33 => ?_) (fun c_33 => ?_)
        · refine lv_iload_n hx hb dX12_sortOf_40 rfl (lv_at hl 0 rfl) ?_
          refine lv_bipush (v := 118) hx hb dX12_sortOf_41 (by decide) ?_
          refine lv_icmp_ne (tgt := 50) hx hb dX12_sortOf_43 (by decide) (fun c_43 => ?_) (fun c_43 => ?_)
          · refine lv_iconst (v := 0) hx hb dX12_sortOf_50 (by decide) ?_
            exact hend H locs (0) (L, f) _ ls w ⟨(by (try simp only [lg_cmp_le, lg_cmp_ge, lg_cmp_lt, lg_cmp_gt, ← Int32.not_lt, ← Int64.not_lt, Classical.not_not] at c_3 c_13 c_23 c_33 c_43); first | (simp [hs_sort, c_3, c_13, c_23, c_33, c_43]; done) | (simp [hs_sort, c_3, c_13, c_23, c_33, c_43]; done) | (exfalso; clear hend; simp_all; done)), rfl⟩ rfl dX12_sortOf_51
          · refine lv_iconst (v := 5) hx hb dX12_sortOf_46 (by decide) ?_
            refine lv_goto (tgt := 51) hx hb dX12_sortOf_47 (by decide) ?_
            exact hend H locs (5) (L, f) _ ls w ⟨(by (try simp only [lg_cmp_le, lg_cmp_ge, lg_cmp_lt, lg_cmp_gt, ← Int32.not_lt, ← Int64.not_lt, Classical.not_not] at c_3 c_13 c_23 c_33 c_43); first | (simp [hs_sort, c_3, c_13, c_23, c_33, c_43]; done) | (simp [hs_sort, c_3, c_13, c_23, c_33, eq_true c_43]; done) | (exfalso; clear hend; simp_all; done)), rfl⟩ rfl dX12_sortOf_51
        · refine lv_iconst (v := 4) hx hb dX12_sortOf_36 (by decide) ?_
          refine lv_goto (tgt := 51) hx hb dX12_sortOf_37 (by decide) ?_
          exact hend H locs (4) (L, f) _ ls w ⟨(by (try simp only [lg_cmp_le, lg_cmp_ge, lg_cmp_lt, lg_cmp_gt, ← Int32.not_lt, ← Int64.not_lt, Classical.not_not] at c_3 c_13 c_23 c_33); first | (simp [hs_sort, c_3, c_13, c_23, c_33]; done) | (simp [hs_sort, c_3, c_13, c_23, eq_true c_33]; done) | (exfalso; clear hend; simp_all; done)), rfl⟩ rfl dX12_sortOf_51
      · refine lv_iconst (v := 3) hx hb dX12_sortOf_26 (by decide) ?_
        refine lv_goto (tgt := 51) hx hb dX12_sortOf_27 (by decide) ?_
        exact hend H locs (3) (L, f) _ ls w ⟨(by (try simp only [lg_cmp_le, lg_cmp_ge, lg_cmp_lt, lg_cmp_gt, ← Int32.not_lt, ← Int64.not_lt, Classical.not_not] at c_3 c_13 c_23); first | (simp [hs_sort, c_3, c_13, c_23]; done) | (simp [hs_sort, c_3, c_13, eq_true c_23]; done) | (exfalso; clear hend; simp_all; done)), rfl⟩ rfl dX12_sortOf_51
    · refine lv_iconst (v := 2) hx hb dX12_sortOf_16 (by decide) ?_
      refine lv_goto (tgt := 51) hx hb dX12_sortOf_17 (by decide) ?_
      exact hend H locs (2) (L, f) _ ls w ⟨(by (try simp only [lg_cmp_le, lg_cmp_ge, lg_cmp_lt, lg_cmp_gt, ← Int32.not_lt, ← Int64.not_lt, Classical.not_not] at c_3 c_13); first | (simp [hs_sort, c_3, c_13]; done) | (simp [hs_sort, c_3, eq_true c_13]; done) | (exfalso; clear hend; simp_all; done)), rfl⟩ rfl dX12_sortOf_51
  · refine lv_iconst (v := 1) hx hb dX12_sortOf_6 (by decide) ?_
    refine lv_goto (tgt := 51) hx hb dX12_sortOf_7 (by decide) ?_
    exact hend H locs (1) (L, f) _ ls w ⟨(by (try simp only [lg_cmp_le, lg_cmp_ge, lg_cmp_lt, lg_cmp_gt, ← Int32.not_lt, ← Int64.not_lt, Classical.not_not] at c_3); first | (simp [hs_sort, c_3]; done) | (simp [hs_sort, eq_true c_3]; done) | (exfalso; clear hend; simp_all; done)), rfl⟩ rfl dX12_sortOf_51
set_option maxRecDepth 100000 in
set_option maxHeartbeats 4000000 in
/-- isOf -/
theorem c_X12_isOf (l : Launch) (D : va_G) (b0 : Nat) (L : List Nat) (f : Nat → va_E) (sort kind : Int32) : hg_Fi l yX12_isOf wsX12_isOf ({ frames := 0, cells := 0, slots := 0, locals := 0 }) D b0 L f [.int (sort), .int (kind)] (hs_isof sort kind) f := by
  refine hg_in_i (cc := cX12_isOf) (nL := 2) (by decide) rfl (Nat.le_of_ble_eq_true rfl) (fun p e s m args below meth c R Q X hR hend H locs ls w hl => ?_)
  subst hR
  obtain ⟨hx, hb, hml, hown, hts⟩ := id X.1
  have hl : lv_has ls 2 [(0, .int (sort)), (1, .int (kind))] := hl
  refine lv_iload_n hx hb dX12_isOf_0 rfl (lv_at hl 1 rfl) ?_
  refine lv_if_eq (tgt := 29) hx hb dX12_isOf_1 (by decide) (fun c_1 => ?_) (fun c_1 => ?_)
  · refine lv_iconst (v := 1) hx hb dX12_isOf_29 (by decide) ?_
    refine lv_goto (tgt := 34) hx hb dX12_isOf_30 (by decide) ?_
    exact hend H locs (1) (L, f) _ ls w ⟨(by simp [hs_isof, c_1]), rfl⟩ (by decide) dX12_isOf_34
  · refine lv_iload_n hx hb dX12_isOf_4 rfl (lv_at hl 1 rfl) ?_
    refine lv_iload_n hx hb dX12_isOf_5 rfl (lv_at hl 0 rfl) ?_
    refine lv_icmp_eq (tgt := 29) hx hb dX12_isOf_6 (by decide) (fun c_6 => ?_) (fun c_6 => ?_)
    · refine lv_iconst (v := 1) hx hb dX12_isOf_29 (by decide) ?_
      refine lv_goto (tgt := 34) hx hb dX12_isOf_30 (by decide) ?_
      exact hend H locs (1) (L, f) _ ls w ⟨(by simp [hs_isof, c_6]), rfl⟩ (by decide) dX12_isOf_34
    · refine lv_iload_n hx hb dX12_isOf_9 rfl (lv_at hl 1 rfl) ?_
      refine lv_iconst (v := 1) hx hb dX12_isOf_10 (by decide) ?_
      refine lv_icmp_ne (tgt := 19) hx hb dX12_isOf_11 (by decide) (fun c_11 => ?_) (fun c_11 => ?_)
      · refine lv_iload_n hx hb dX12_isOf_19 rfl (lv_at hl 1 rfl) ?_
        refine lv_iconst (v := 4) hx hb dX12_isOf_20 (by decide) ?_
        refine lv_icmp_ne (tgt := 33) hx hb dX12_isOf_21 (by decide) (fun c_21 => ?_) (fun c_21 => ?_)
        · refine lv_iconst (v := 0) hx hb dX12_isOf_33 (by decide) ?_
          exact hend H locs (0) (L, f) _ ls w ⟨(by simp_all [hs_isof]), rfl⟩ (by decide) dX12_isOf_34
        · refine lv_iload_n hx hb dX12_isOf_24 rfl (lv_at hl 0 rfl) ?_
          refine lv_iconst (v := 5) hx hb dX12_isOf_25 (by decide) ?_
          refine lv_icmp_ne (tgt := 33) hx hb dX12_isOf_26 (by decide) (fun c_26 => ?_) (fun c_26 => ?_)
          · refine lv_iconst (v := 0) hx hb dX12_isOf_33 (by decide) ?_
            exact hend H locs (0) (L, f) _ ls w ⟨(by simp_all [hs_isof]), rfl⟩ (by decide) dX12_isOf_34
          · refine lv_iconst (v := 1) hx hb dX12_isOf_29 (by decide) ?_
            refine lv_goto (tgt := 34) hx hb dX12_isOf_30 (by decide) ?_
            exact hend H locs (1) (L, f) _ ls w ⟨(by simp_all [hs_isof]), rfl⟩ (by decide) dX12_isOf_34
      · refine lv_iload_n hx hb dX12_isOf_14 rfl (lv_at hl 0 rfl) ?_
        refine lv_iconst (v := 3) hx hb dX12_isOf_15 (by decide) ?_
        refine lv_icmp_le (tgt := 29) hx hb dX12_isOf_16 (by decide) (fun c_16 => ?_) (fun c_16 => ?_)
        · refine lv_iconst (v := 1) hx hb dX12_isOf_29 (by decide) ?_
          refine lv_goto (tgt := 34) hx hb dX12_isOf_30 (by decide) ?_
          exact hend H locs (1) (L, f) _ ls w ⟨(by simp [hs_isof, c_11, c_16]), rfl⟩ (by decide) dX12_isOf_34
        · refine lv_iload_n hx hb dX12_isOf_19 rfl (lv_at hl 1 rfl) ?_
          refine lv_iconst (v := 4) hx hb dX12_isOf_20 (by decide) ?_
          refine lv_icmp_ne (tgt := 33) hx hb dX12_isOf_21 (by decide) (fun c_21 => ?_) (fun c_21 => ?_)
          · refine lv_iconst (v := 0) hx hb dX12_isOf_33 (by decide) ?_
            exact hend H locs (0) (L, f) _ ls w ⟨(by simp_all [hs_isof]), rfl⟩ (by decide) dX12_isOf_34
          · refine lv_iload_n hx hb dX12_isOf_24 rfl (lv_at hl 0 rfl) ?_
            refine lv_iconst (v := 5) hx hb dX12_isOf_25 (by decide) ?_
            refine lv_icmp_ne (tgt := 33) hx hb dX12_isOf_26 (by decide) (fun c_26 => ?_) (fun c_26 => ?_)
            · refine lv_iconst (v := 0) hx hb dX12_isOf_33 (by decide) ?_
              exact hend H locs (0) (L, f) _ ls w ⟨(by simp_all [hs_isof]), rfl⟩ (by decide) dX12_isOf_34
            · refine lv_iconst (v := 1) hx hb dX12_isOf_29 (by decide) ?_
              refine lv_goto (tgt := 34) hx hb dX12_isOf_30 (by decide) ?_
              exact hend H locs (1) (L, f) _ ls w ⟨(by simp_all [hs_isof]), rfl⟩ (by decide) dX12_isOf_34
theorem hdX12_in : yX12_in.cls ≠ "java/lang/invoke/MethodHandle" ∧ yX12_in.cls ≠ "java/lang/invoke/VarHandle" ∧ (parseMethodDescriptor yX12_in.desc).map (fun d => d.parameters.length) = some 3 := by decide +kernel
set_option maxRecDepth 100000 in
set_option maxHeartbeats 4000000 in
/-- isRow -/
theorem c_X12_isRow (l : Launch) (D : va_G) (b0 : Nat) (L : List Nat) (f : Nat → va_E) (r : Int32) : hg_Fi l yX12_isRow wsX12_isRow ({ frames := 1, cells := 0, slots := 0, locals := 25 }) D b0 L f [.int (r)] (hs_row r) f := by
  refine hg_in_i (cc := cX12_isRow) (nL := 1) (by decide) rfl (Nat.le_of_ble_eq_true rfl) (fun p e s m args below meth c R Q X hR hend H locs ls w hl => ?_)
  subst hR
  obtain ⟨hx, hb, hml, hown, hts⟩ := id X.1
  have hl : lv_has ls 1 [(0, .int (r))] := hl
  refine lv_iload_n hx hb dX12_isRow_0 rfl (lv_at hl 0 rfl) ?_
  refine lv_i2l hx hb dX12_isRow_1 rfl ?_
  refine lv_lconst (v := 0) hx hb dX12_isRow_2 (by decide) ?_
  refine lv_ldc2 (v := 7) hx hb hown (hts _ (List.mem_of_getElem? (i := 1) rfl)) dX12_isRow_3 ?_
  refine hg_siF (r := hs_in r 0 7) (As := [.long ((r).toInt64), .long (0), .long (7)]) (rest := []) X w (c_X12_in l D b0 L _ ((r).toInt64) 0 7 r 0 7 rfl (by decide) (by decide)) (va_cwS 3 hts gX12_isRow_X12_in rfl rfl rfl hdX12_in ⟨Nat.le_of_ble_eq_true rfl, Nat.le_of_ble_eq_true rfl⟩) rfl hl.1 rfl (Nat.le_of_ble_eq_true rfl) dX12_isRow_6 ⟨Nat.zero_le _, Nat.zero_le _⟩ (fun H locs w => ?_)
  exact hend H locs (hs_in r 0 7) (L, f) _ ls w ⟨rfl, rfl⟩ (by unfold hs_in; split <;> decide) dX12_isRow_9
set_option maxRecDepth 100000 in
set_option maxHeartbeats 4000000 in
/-- found -/
theorem c_X12_found (l : Launch) (D : va_G) (b0 : Nat) (L : List Nat) (f : Nat → va_E) (mo : Nat) (ma : Nat → Nat) (M : Nat → Nat → Int32) (hm : mo_ok L mo ma) (k : Int32) : mo_Fi l yX12_found wsX12_found ({ frames := 0, cells := 0, slots := 0, locals := 0 }) D b0 L f mo ma M [.int (k)] (-1000010 - k) (mo_w M 7 0 k) := by
  refine hg_in_i (cc := cX12_found) (nL := 2) (by decide) rfl (Nat.le_of_ble_eq_true rfl) (fun p e s m args below meth c R Q X hR hend H locs ls w hl => ?_)
  subst hR
  obtain ⟨hx, hb, hml, hown, hts⟩ := id X.1
  have hin : ∀ w ∈ wsX120, w ∈ wsX12_found := fun w h => List.mem_cons_of_mem _ (List.mem_append_right _ h)
  have hl : lv_has ls 2 [(0, .ref mo), (1, .int (k))] := hl
  refine lv_aload_n hx hb dX12_found_0 rfl (lv_at hl 0 rfl) ?_
  refine lv_iload_n hx hb dX12_found_1 rfl (lv_at hl 1 rfl) ?_
  refine mo_put X w hm hin 7 (by decide) (List.mem_of_getElem? (i := 1) rfl) dX12_found_2 (fun H locs w => ?_)
  refine lv_ldc (v := (-1000010)) hx hb hown (hts _ (List.mem_of_getElem? (i := 2) rfl)) dX12_found_5 ?_
  refine lv_iload_n hx hb dX12_found_7 rfl (lv_at hl 1 rfl) ?_
  refine lv_isub hx hb dX12_found_8 ?_
  exact hend H locs (((-1000010) - k)) (L, mo_F D f mo ma (mo_w M 7 0 (k))) _ ls w ⟨rfl, rfl⟩ rfl dX12_found_9
set_option maxRecDepth 100000 in
set_option maxHeartbeats 4000000 in
/-- well -/
theorem c_X12_well (l : Launch) (D : va_G) (b0 : Nat) (L : List Nat) (f : Nat → va_E) (mo : Nat) (ma : Nat → Nat) (M : Nat → Nat → Int32) (hm : mo_ok L mo ma) (k : Int32) : mo_Fi l yX12_well wsX12_well ({ frames := 0, cells := 0, slots := 0, locals := 0 }) D b0 L f mo ma M [.int (k)] (k) (mo_w M 7 0 0) := by
  refine hg_in_i (cc := cX12_well) (nL := 2) (by decide) rfl (Nat.le_of_ble_eq_true rfl) (fun p e s m args below meth c R Q X hR hend H locs ls w hl => ?_)
  subst hR
  obtain ⟨hx, hb, hml, hown, hts⟩ := id X.1
  have hin : ∀ w ∈ wsX120, w ∈ wsX12_well := fun w h => List.mem_cons_of_mem _ (List.mem_append_right _ h)
  have hl : lv_has ls 2 [(0, .ref mo), (1, .int (k))] := hl
  refine lv_aload_n hx hb dX12_well_0 rfl (lv_at hl 0 rfl) ?_
  refine lv_iconst (v := 0) hx hb dX12_well_1 (by decide) ?_
  refine mo_put X w hm hin 7 (by decide) (List.mem_of_getElem? (i := 1) rfl) dX12_well_2 (fun H locs w => ?_)
  refine lv_iload_n hx hb dX12_well_5 rfl (lv_at hl 1 rfl) ?_
  exact hend H locs (k) (L, mo_F D f mo ma (mo_w M 7 0 (0))) _ ls w ⟨rfl, rfl⟩ rfl dX12_well_6
set_option maxRecDepth 100000 in
set_option maxHeartbeats 4000000 in
/-- bars -/
theorem c_X12_bars (l : Launch) (D : va_G) (b0 : Nat) (L : List Nat) (f : Nat → va_E) (mo : Nat) (ma : Nat → Nat) (M : Nat → Nat → Int32) (hm : mo_ok L mo ma) (r : Nat) (hr : r < 8) (x n : Int32) : mo_Fi l yX12_bars wsX12_bars ({ frames := 0, cells := 0, slots := 0, locals := 0 }) D b0 L f mo ma M [.int (nI r), .int (x), .int (n)] (hs_bars M r x n) (M) := by
  refine hg_in_i (cc := cX12_bars) (nL := 4) (by decide) rfl (Nat.le_of_ble_eq_true rfl) (fun p e s m args below meth c R Q X hR hend H locs ls w hl => ?_)
  subst hR
  obtain ⟨hx, hb, hml, hown, hts⟩ := id X.1
  have hin : ∀ w ∈ wsX120, w ∈ wsX12_bars := fun w h => List.mem_cons_of_mem _ (List.mem_append_right _ h)
  have hl : lv_has ls 4 [(0, .ref mo), (1, .int (nI r)), (2, .int (x)), (3, .int (n))] := hl
  refine lv_aload_n hx hb dX12_bars_0 rfl (lv_at hl 0 rfl) ?_
  refine mo_get X w hm hin 3 (by decide) (List.mem_of_getElem? (i := 1) rfl) rfl dX12_bars_1 ?_
  refine lv_iload_n hx hb dX12_bars_4 rfl (lv_at hl 1 rfl) ?_
  refine mo_iald X w hm 3 (by decide) (by decide) r rfl hr dX12_bars_5 ?_
  refine lv_if_ge (tgt := 13) hx hb dX12_bars_6 (by decide) (fun c_6 => ?_) (fun c_6 => ?_)
  · refine lv_iload_n hx hb dX12_bars_13 rfl (lv_at hl 2 rfl) ?_
    refine lv_if_lt (tgt := 37) hx hb dX12_bars_14 (by decide) (fun c_14 => ?_) (fun c_14 => ?_)
    · refine lv_iconst (v := 2) hx hb dX12_bars_37 (by decide) ?_
      refine lv_goto (tgt := 42) hx hb dX12_bars_38 (by decide) ?_
      exact hend H locs (2) (L, mo_F D f mo ma M) _ ls w ⟨(by (try simp only [lg_cmp_le, lg_cmp_ge, lg_cmp_lt, lg_cmp_gt, ← Int32.not_lt, ← Int64.not_lt, Classical.not_not] at c_6 c_14); first | (simp [hs_bars, c_6, c_14]; done) | (simp [hs_bars, c_6, c_14]; done) | (exfalso; clear hend; simp_all; done)), rfl⟩ rfl dX12_bars_42
    · refine lv_iload_n hx hb dX12_bars_17 rfl (lv_at hl 3 rfl) ?_
      refine lv_if_lt (tgt := 37) hx hb dX12_bars_18 (by decide) (fun c_18 => ?_) (fun c_18 => ?_)
      · refine lv_iconst (v := 2) hx hb dX12_bars_37 (by decide) ?_
        refine lv_goto (tgt := 42) hx hb dX12_bars_38 (by decide) ?_
        exact hend H locs (2) (L, mo_F D f mo ma M) _ ls w ⟨(by (try simp only [lg_cmp_le, lg_cmp_ge, lg_cmp_lt, lg_cmp_gt, ← Int32.not_lt, ← Int64.not_lt, Classical.not_not] at c_6 c_14 c_18); first | (simp [hs_bars, c_6, c_14, c_18]; done) | (simp [hs_bars, c_6, c_14, c_18]; done) | (exfalso; clear hend; simp_all; done)), rfl⟩ rfl dX12_bars_42
      · refine lv_iload_n hx hb dX12_bars_21 rfl (lv_at hl 2 rfl) ?_
        refine lv_i2l hx hb dX12_bars_22 rfl ?_
        refine lv_iload_n hx hb dX12_bars_23 rfl (lv_at hl 3 rfl) ?_
        refine lv_i2l hx hb dX12_bars_24 rfl ?_
        refine lv_ladd hx hb dX12_bars_25 ?_
        refine lv_aload_n hx hb dX12_bars_26 rfl (lv_at hl 0 rfl) ?_
        refine mo_get X w hm hin 4 (by decide) (List.mem_of_getElem? (i := 2) rfl) rfl dX12_bars_27 ?_
        refine lv_iload_n hx hb dX12_bars_30 rfl (lv_at hl 1 rfl) ?_
        refine mo_iald X w hm 4 (by decide) (by decide) r rfl hr dX12_bars_31 ?_
        refine lv_i2l hx hb dX12_bars_32 rfl ?_
        refine W.lcmp hx hb dX12_bars_33 ?_
        refine lv_if_le (tgt := 41) hx hb dX12_bars_34 (by decide) (fun c_34 => ?_) (fun c_34 => ?_)
        · refine lv_iconst (v := 0) hx hb dX12_bars_41 (by decide) ?_
          exact hend H locs (0) (L, mo_F D f mo ma M) _ ls w ⟨(by (try simp only [lg_cmp_le, lg_cmp_ge, lg_cmp_lt, lg_cmp_gt, ← Int32.not_lt, ← Int64.not_lt, Classical.not_not] at c_6 c_14 c_18 c_34); first | (simp [hs_bars, c_6, c_14, c_18, c_34]; done) | (simp [hs_bars, c_6, c_14, c_18, c_34]; done) | (exfalso; clear hend; simp_all; done)), rfl⟩ rfl dX12_bars_42
        · refine lv_iconst (v := 2) hx hb dX12_bars_37 (by decide) ?_
          refine lv_goto (tgt := 42) hx hb dX12_bars_38 (by decide) ?_
          exact hend H locs (2) (L, mo_F D f mo ma M) _ ls w ⟨(by (try simp only [lg_cmp_le, lg_cmp_ge, lg_cmp_lt, lg_cmp_gt, ← Int32.not_lt, ← Int64.not_lt, Classical.not_not] at c_6 c_14 c_18 c_34); first | (simp [hs_bars, c_6, c_14, c_18, c_34]; done) | (simp [hs_bars, c_6, c_14, c_18, c_34]; done) | (exfalso; clear hend; simp_all; done)), rfl⟩ rfl dX12_bars_42
  · refine lv_iconst (v := 1) hx hb dX12_bars_9 (by decide) ?_
    refine lv_goto (tgt := 42) hx hb dX12_bars_10 (by decide) ?_
    exact hend H locs (1) (L, mo_F D f mo ma M) _ ls w ⟨(by (try simp only [lg_cmp_le, lg_cmp_ge, lg_cmp_lt, lg_cmp_gt, ← Int32.not_lt, ← Int64.not_lt, Classical.not_not] at c_6); first | (simp [hs_bars, c_6]; done) | (simp [hs_bars, c_6]; done) | (exfalso; clear hend; simp_all; done)), rfl⟩ rfl dX12_bars_42
theorem hdX12_found : yX12_found.cls = RX12 ∧ yX12_found.cls ≠ "java/lang/invoke/MethodHandle" ∧ yX12_found.cls ≠ "java/lang/invoke/VarHandle" ∧ (parseMethodDescriptor yX12_found.desc).map (fun d => d.parameters.length) = some 1 := by decide +kernel
theorem hdX12_isRow : yX12_isRow.cls ≠ "java/lang/invoke/MethodHandle" ∧ yX12_isRow.cls ≠ "java/lang/invoke/VarHandle" ∧ (parseMethodDescriptor yX12_isRow.desc).map (fun d => d.parameters.length) = some 1 := by decide +kernel
theorem hdX12_well : yX12_well.cls = RX12 ∧ yX12_well.cls ≠ "java/lang/invoke/MethodHandle" ∧ yX12_well.cls ≠ "java/lang/invoke/VarHandle" ∧ (parseMethodDescriptor yX12_well.desc).map (fun d => d.parameters.length) = some 1 := by decide +kernel
set_option maxRecDepth 100000 in
set_option maxHeartbeats 4000000 in
/-- drop -/
theorem c_X12_drop (l : Launch) (D : va_G) (b0 : Nat) (L : List Nat) (f : Nat → va_E) (mo : Nat) (ma : Nat → Nat) (M : Nat → Nat → Int32) (hm : mo_ok L mo ma) (row : Int32) : mo_Fi l yX12_drop wsX12_drop ({ frames := 2, cells := 0, slots := 0, locals := 45 }) D b0 L f mo ma M [.int (row)] ((sp_drop M row).1) ((sp_drop M row).2) := by
  refine hg_in_i (cc := cX12_drop) (nL := 2) (by decide) rfl (Nat.le_of_ble_eq_true rfl) (fun p e s m args below meth c R Q X hR hend H locs ls w hl => ?_)
  subst hR
  obtain ⟨hx, hb, hml, hown, hts⟩ := id X.1
  have hin : ∀ w ∈ wsX120, w ∈ wsX12_drop := fun w h => List.mem_cons_of_mem _ (List.mem_append_right _ h)
  have hl : lv_has ls 2 [(0, .ref mo), (1, .int (row))] := hl
  refine lv_iload_n hx hb dX12_drop_0 rfl (lv_at hl 1 rfl) ?_
  refine hg_siF (r := hs_row row) (As := [.int (row)]) (rest := []) X w (c_X12_isRow l D b0 L _ row) (va_cwS 1 hts gX12_drop_X12_isRow rfl rfl rfl hdX12_isRow ⟨Nat.le_of_ble_eq_true rfl, Nat.le_of_ble_eq_true rfl⟩) rfl hl.1 rfl (Nat.le_of_ble_eq_true rfl) dX12_drop_1 ⟨Nat.zero_le _, Nat.zero_le _⟩ (fun H locs w => ?_)
  refine lv_if_ne (tgt := 10) hx hb dX12_drop_4 (by decide) (fun c_4 => ?_) (fun c_4 => ?_)
  · obtain ⟨r, hr, rfl⟩ := hs_row_1 c_4
    have hrc := hs_cl hr (by decide)
    refine lv_aload_n hx hb dX12_drop_10 rfl (lv_at hl 0 rfl) ?_
    refine mo_get X w hm hin 3 (by decide) (List.mem_of_getElem? (i := 2) rfl) rfl dX12_drop_11 ?_
    refine lv_iload_n hx hb dX12_drop_14 rfl (lv_at hl 1 rfl) ?_
    refine mo_iald X w hm 3 (by decide) (by decide) r rfl (by show _ < 8; omega) dX12_drop_15 ?_
    refine lv_if_ge (tgt := 25) hx hb dX12_drop_16 (by decide) (fun c_16 => ?_) (fun c_16 => ?_)
    · refine lv_aload_n hx hb dX12_drop_25 rfl (lv_at hl 0 rfl) ?_
      refine mo_get X w hm hin 3 (by decide) (List.mem_of_getElem? (i := 2) rfl) rfl dX12_drop_26 ?_
      refine lv_iload_n hx hb dX12_drop_29 rfl (lv_at hl 1 rfl) ?_
      refine lv_iconst (v := (-1)) hx hb dX12_drop_30 (by decide) ?_
      refine mo_iast X w hm 3 (by decide) (by decide) r rfl (by show _ < 8; omega) dX12_drop_31 (fun H locs w => ?_)
      refine lv_aload_n hx hb dX12_drop_32 rfl (lv_at hl 0 rfl) ?_
      refine lv_aload_n hx hb dX12_drop_33 rfl (lv_at hl 0 rfl) ?_
      refine mo_get X w hm hin 4 (by decide) (List.mem_of_getElem? (i := 3) rfl) rfl dX12_drop_34 ?_
      refine lv_iload_n hx hb dX12_drop_37 rfl (lv_at hl 1 rfl) ?_
      refine mo_iald X w hm 4 (by decide) (by decide) r rfl (by show _ < 8; omega) dX12_drop_38 ?_
      refine hg_viF (r := (mo_w M 3 r ((-1))) 4 r) (As := [.int ((mo_w M 3 r ((-1))) 4 r)]) (rest := []) X w (c_X12_well l D b0 L f mo ma (mo_w M 3 r ((-1))) hm ((mo_w M 3 r ((-1))) 4 r)) (cwV 1 hts gX12_drop_X12_well rfl rfl rfl hdX12_well ⟨Nat.le_of_ble_eq_true rfl, Nat.le_of_ble_eq_true rfl⟩) hm.1 (mo_at0 D f mo ma _) rfl rfl rfl hl.1 rfl (Nat.le_of_ble_eq_true rfl) dX12_drop_39 ⟨Nat.zero_le _, Nat.zero_le _⟩ (fun H locs w => ?_)
      exact hend H locs ((mo_w M 3 r ((-1))) 4 r) (L, mo_F D f mo ma (mo_w (mo_w M 3 r ((-1))) 7 0 0)) _ ls w ⟨(by (try simp only [lg_cmp_le, lg_cmp_ge, lg_cmp_lt, lg_cmp_gt, ← Int32.not_lt, ← Int64.not_lt, Classical.not_not] at c_4 c_16); first | (simp [sp_drop, sp_found, sp_well, va_up, c_4, c_16, hrc]; done) | (simp [sp_drop, sp_found, sp_well, va_up, c_4, c_16, hrc]; done) | (exfalso; clear hend; simp_all; done)), (congrArg (fun z => (L, mo_F D f mo ma z)) (by (try simp only [lg_cmp_le, lg_cmp_ge, lg_cmp_lt, lg_cmp_gt, ← Int32.not_lt, ← Int64.not_lt, Classical.not_not] at c_4 c_16); first | (simp [sp_drop, sp_found, sp_well, c_4, c_16, hrc]; done) | (simp [sp_drop, sp_found, sp_well, c_4, c_16, hrc]; done) | (exfalso; clear hend; simp_all; done)))⟩ rfl dX12_drop_42
    · refine lv_aload_n hx hb dX12_drop_19 rfl (lv_at hl 0 rfl) ?_
      refine lv_iconst (v := 1) hx hb dX12_drop_20 (by decide) ?_
      refine hg_viF (r := (-1000010 - 1)) (As := [.int (1)]) (rest := []) X w (c_X12_found l D b0 L f mo ma M hm 1) (cwV 1 hts gX12_drop_X12_found rfl rfl rfl hdX12_found ⟨Nat.le_of_ble_eq_true rfl, Nat.le_of_ble_eq_true rfl⟩) hm.1 (mo_at0 D f mo ma _) rfl rfl rfl hl.1 rfl (Nat.le_of_ble_eq_true rfl) dX12_drop_21 ⟨Nat.zero_le _, Nat.zero_le _⟩ (fun H locs w => ?_)
      exact hend H locs ((-1000010 - 1)) (L, mo_F D f mo ma (mo_w M 7 0 1)) _ ls w ⟨(by (try simp only [lg_cmp_le, lg_cmp_ge, lg_cmp_lt, lg_cmp_gt, ← Int32.not_lt, ← Int64.not_lt, Classical.not_not] at c_4 c_16); first | (simp [sp_drop, sp_found, sp_well, va_up, c_4, c_16, hrc]; done) | (simp [sp_drop, sp_found, sp_well, va_up, c_4, c_16, hrc]; done) | (exfalso; clear hend; simp_all; done)), (congrArg (fun z => (L, mo_F D f mo ma z)) (by (try simp only [lg_cmp_le, lg_cmp_ge, lg_cmp_lt, lg_cmp_gt, ← Int32.not_lt, ← Int64.not_lt, Classical.not_not] at c_4 c_16); first | (simp [sp_drop, sp_found, sp_well, c_4, c_16, hrc]; done) | (simp [sp_drop, sp_found, sp_well, c_4, c_16, hrc]; done) | (exfalso; clear hend; simp_all; done)))⟩ rfl dX12_drop_24
  · refine lv_ldc (v := (-1000001)) hx hb hown (hts _ (List.mem_of_getElem? (i := 1) rfl)) dX12_drop_7 ?_
    exact hend H locs ((-1000001)) (L, mo_F D f mo ma M) _ ls w ⟨(by (try simp only [lg_cmp_le, lg_cmp_ge, lg_cmp_lt, lg_cmp_gt, ← Int32.not_lt, ← Int64.not_lt, Classical.not_not] at c_4); first | (simp [sp_drop, sp_found, sp_well, va_up, c_4]; done) | (simp [sp_drop, sp_found, sp_well, va_up, eq_true c_4]; done) | (exfalso; clear hend; simp_all; done)), (congrArg (fun z => (L, mo_F D f mo ma z)) (by (try simp only [lg_cmp_le, lg_cmp_ge, lg_cmp_lt, lg_cmp_gt, ← Int32.not_lt, ← Int64.not_lt, Classical.not_not] at c_4); first | (simp [sp_drop, sp_found, sp_well, c_4]; done) | (simp [sp_drop, sp_found, sp_well, eq_true c_4]; done) | (exfalso; clear hend; simp_all; done)))⟩ rfl dX12_drop_9
set_option maxRecDepth 100000 in
set_option maxHeartbeats 4000000 in
/-- row -/
theorem c_X12_row (l : Launch) (D : va_G) (b0 : Nat) (L : List Nat) (f : Nat → va_E) (mo : Nat) (ma : Nat → Nat) (M : Nat → Nat → Int32) (hm : mo_ok L mo ma) (row lane n : Int32) : mo_Fi l yX12_row wsX12_row ({ frames := 2, cells := 0, slots := 0, locals := 45 }) D b0 L f mo ma M [.int (row), .int (lane), .int (n)] ((sp_row M row lane n).1) ((sp_row M row lane n).2) := by
  refine hg_in_i (cc := cX12_row) (nL := 5) (by decide) rfl (Nat.le_of_ble_eq_true rfl) (fun p e s m args below meth c R Q X hR hend H locs ls w hl => ?_)
  subst hR
  obtain ⟨hx, hb, hml, hown, hts⟩ := id X.1
  have hin : ∀ w ∈ wsX120, w ∈ wsX12_row := fun w h => List.mem_cons_of_mem _ (List.mem_append_right _ h)
  have hl : lv_has ls 5 [(0, .ref mo), (1, .int (row)), (2, .int (lane)), (3, .int (n))] := hl
  refine lv_iload_n hx hb dX12_row_0 rfl (lv_at hl 1 rfl) ?_
  refine hg_siF (r := hs_row row) (As := [.int (row)]) (rest := []) X w (c_X12_isRow l D b0 L _ row) (va_cwS 1 hts gX12_row_X12_isRow rfl rfl rfl hdX12_isRow ⟨Nat.le_of_ble_eq_true rfl, Nat.le_of_ble_eq_true rfl⟩) rfl hl.1 rfl (Nat.le_of_ble_eq_true rfl) dX12_row_1 ⟨Nat.zero_le _, Nat.zero_le _⟩ (fun H locs w => ?_)
  refine lv_if_eq (tgt := 25) hx hb dX12_row_4 (by decide) (fun c_4 => ?_) (fun c_4 => ?_)
  · refine lv_ldc (v := (-1000001)) hx hb hown (hts _ (List.mem_of_getElem? (i := 2) rfl)) dX12_row_25 ?_
    exact hend H locs ((-1000001)) (L, mo_F D f mo ma M) _ ls w ⟨(by (try simp only [lg_cmp_le, lg_cmp_ge, lg_cmp_lt, lg_cmp_gt, ← Int32.not_lt, ← Int64.not_lt, Classical.not_not] at c_4); first | (simp [sp_row, sp_found, sp_well, c_4]; done) | (simp [sp_row, sp_found, sp_well, eq_true c_4]; done) | (exfalso; clear hend; simp_all; done)), (congrArg (fun z => (L, mo_F D f mo ma z)) (by (try simp only [lg_cmp_le, lg_cmp_ge, lg_cmp_lt, lg_cmp_gt, ← Int32.not_lt, ← Int64.not_lt, Classical.not_not] at c_4); first | (simp [sp_row, sp_found, sp_well, c_4]; done) | (simp [sp_row, sp_found, sp_well, eq_true c_4]; done) | (exfalso; clear hend; simp_all; done)))⟩ rfl dX12_row_27
  · obtain ⟨r, hr, rfl⟩ := hs_row_1 c_4
    have hrc := hs_cl hr (by decide)
    refine lv_iload_n hx hb dX12_row_7 rfl (lv_at hl 2 rfl) ?_
    refine lv_i2l hx hb dX12_row_8 rfl ?_
    refine lv_lconst (v := 0) hx hb dX12_row_9 (by decide) ?_
    refine lv_ldc2 (v := 2) hx hb hown (hts _ (List.mem_of_getElem? (i := 1) rfl)) dX12_row_10 ?_
    refine hg_siF (r := hs_in lane 0 2) (As := [.long ((lane).toInt64), .long (0), .long (2)]) (rest := []) X w (c_X12_in l D b0 L _ ((lane).toInt64) 0 2 lane 0 2 rfl (by decide) (by decide)) (va_cwS 3 hts gX12_row_X12_in rfl rfl rfl hdX12_in ⟨Nat.le_of_ble_eq_true rfl, Nat.le_of_ble_eq_true rfl⟩) rfl hl.1 rfl (Nat.le_of_ble_eq_true rfl) dX12_row_13 ⟨Nat.zero_le _, Nat.zero_le _⟩ (fun H locs w => ?_)
    refine lv_if_eq (tgt := 25) hx hb dX12_row_16 (by decide) (fun c_16 => ?_) (fun c_16 => ?_)
    · refine lv_ldc (v := (-1000001)) hx hb hown (hts _ (List.mem_of_getElem? (i := 2) rfl)) dX12_row_25 ?_
      exact hend H locs ((-1000001)) (L, mo_F D f mo ma M) _ ls w ⟨(by (try simp only [lg_cmp_le, lg_cmp_ge, lg_cmp_lt, lg_cmp_gt, ← Int32.not_lt, ← Int64.not_lt, Classical.not_not] at c_4 c_16); first | (simp [sp_row, sp_found, sp_well, c_4, c_16, hrc]; done) | (simp [sp_row, sp_found, sp_well, c_4, eq_true c_16, hrc]; done) | (exfalso; clear hend; simp_all; done)), (congrArg (fun z => (L, mo_F D f mo ma z)) (by (try simp only [lg_cmp_le, lg_cmp_ge, lg_cmp_lt, lg_cmp_gt, ← Int32.not_lt, ← Int64.not_lt, Classical.not_not] at c_4 c_16); first | (simp [sp_row, sp_found, sp_well, c_4, c_16, hrc]; done) | (simp [sp_row, sp_found, sp_well, c_4, eq_true c_16, hrc]; done) | (exfalso; clear hend; simp_all; done)))⟩ rfl dX12_row_27
    · refine lv_iload_n hx hb dX12_row_19 rfl (lv_at hl 3 rfl) ?_
      refine lv_bipush (v := 40) hx hb dX12_row_20 (by decide) ?_
      refine lv_icmp_le (tgt := 28) hx hb dX12_row_22 (by decide) (fun c_22 => ?_) (fun c_22 => ?_)
      · refine lv_iload_n hx hb dX12_row_28 rfl (lv_at hl 3 rfl) ?_
        refine lv_if_ge (tgt := 38) hx hb dX12_row_29 (by decide) (fun c_29 => ?_) (fun c_29 => ?_)
        · refine lv_aload_n hx hb dX12_row_38 rfl (lv_at hl 0 rfl) ?_
          refine mo_get X w hm hin 3 (by decide) (List.mem_of_getElem? (i := 3) rfl) rfl dX12_row_39 ?_
          refine lv_iload_n hx hb dX12_row_42 rfl (lv_at hl 1 rfl) ?_
          refine lv_iload_n hx hb dX12_row_43 rfl (lv_at hl 2 rfl) ?_
          refine mo_iast X w hm 3 (by decide) (by decide) r rfl (by show _ < 8; omega) dX12_row_44 (fun H locs w => ?_)
          refine lv_aload_n hx hb dX12_row_45 rfl (lv_at hl 0 rfl) ?_
          refine mo_get X w hm hin 4 (by decide) (List.mem_of_getElem? (i := 4) rfl) rfl dX12_row_46 ?_
          refine lv_iload_n hx hb dX12_row_49 rfl (lv_at hl 1 rfl) ?_
          refine lv_iload_n hx hb dX12_row_50 rfl (lv_at hl 3 rfl) ?_
          refine mo_iast X w hm 4 (by decide) (by decide) r rfl (by show _ < 8; omega) dX12_row_51 (fun H locs w => ?_)
          refine lv_iconst (v := 0) hx hb dX12_row_52 (by decide) ?_
          refine lv_istore (lv' := [(4, .int (0)), (0, .ref mo), (1, .int (nI r)), (2, .int (lane)), (3, .int (n))]) hx hb dX12_row_53 hl (by decide) rfl (fun ls hl => ?_)
          have loop : ∀ (n0 k : Nat), k ≤ 40 → 40 + 1 ≤ k + n0 → ∀ (H : Heap) (locs : List Loc) (ls : Array Slot), hg_W D b0 L (mo_F D f mo ma (va_up (mo_w (mo_w M 3 r (lane)) 4 r (n)) 5 (hs_zero (M 5) r k))) s.heap H locs → lv_has ls 5 [(0, .ref mo), (1, .int (nI r)), (2, .int (lane)), (3, .int (n)), (4, .int (nI k))] → W p l e ({ frames := 2, cells := 0, slots := 0, locals := 45 }) s m args below meth c H locs 0 0 Q (F0 m 55 ls []) := by
            intro n0
            induction n0 with
            | zero =>
              intro k h1 h2
              exact absurd h2 (by omega)
            | succ n0 ih =>
              intro k hk hn0 H locs ls w hl
              refine lv_iload hx hb dX12_row_55 (lv_at hl 4 rfl) ?_
              refine lv_bipush (v := 40) hx hb dX12_row_57 (by decide) ?_
              refine lv_icmp_ge (tgt := 81) hx hb dX12_row_59 (by decide) (fun c_59 => ?_) (fun c_59 => ?_)
              · have hk : 40 = k := by
                  rcases Nat.lt_or_ge k 40 with q | q
                  · exact absurd c_59 (nI_ge (a := k) (b := 40) q (by omega))
                  · omega
                subst hk
                refine lv_aload_n hx hb dX12_row_81 rfl (lv_at hl 0 rfl) ?_
                refine lv_iload_n hx hb dX12_row_82 rfl (lv_at hl 3 rfl) ?_
                refine hg_viF (r := n) (As := [.int (n)]) (rest := []) X w (c_X12_well l D b0 L f mo ma (va_up (mo_w (mo_w M 3 r (lane)) 4 r (n)) 5 (hs_zero (M 5) r 40)) hm n) (cwV 1 hts gX12_row_X12_well rfl rfl rfl hdX12_well ⟨Nat.le_of_ble_eq_true rfl, Nat.le_of_ble_eq_true rfl⟩) hm.1 (mo_at0 D f mo ma _) rfl rfl rfl hl.1 rfl (Nat.le_of_ble_eq_true rfl) dX12_row_83 ⟨Nat.zero_le _, Nat.zero_le _⟩ (fun H locs w => ?_)
                exact hend H locs (n) (L, mo_F D f mo ma (mo_w (va_up (mo_w (mo_w M 3 r (lane)) 4 r (n)) 5 (hs_zero (M 5) r 40)) 7 0 0)) _ ls w ⟨(by (try simp only [lg_cmp_le, lg_cmp_ge, lg_cmp_lt, lg_cmp_gt, ← Int32.not_lt, ← Int64.not_lt, Classical.not_not] at c_4 c_16 c_22 c_29 c_59); first | (simp [sp_row, sp_found, sp_well, c_4, c_16, c_22, c_29, c_59, hrc]; done) | (simp [sp_row, sp_found, sp_well, c_4, c_16, c_22, c_29, c_59, hrc]; done) | (exfalso; clear hend; simp_all; done)), (congrArg (fun z => (L, mo_F D f mo ma z)) (by (try simp only [lg_cmp_le, lg_cmp_ge, lg_cmp_lt, lg_cmp_gt, ← Int32.not_lt, ← Int64.not_lt, Classical.not_not] at c_4 c_16 c_22 c_29 c_59); first | (simp [sp_row, sp_found, sp_well, c_4, c_16, c_22, c_29, c_59, hrc]; done) | (simp [sp_row, sp_found, sp_well, c_4, c_16, c_22, c_29, c_59, hrc]; done) | (exfalso; clear hend; simp_all; done)))⟩ rfl dX12_row_86
              · have hkl : k < 40 := by
                  rcases Nat.lt_or_ge k 40 with q | q
                  · exact q
                  · exact absurd (nI_le (a := 40) (b := k) q (by omega)) c_59
                refine lv_aload_n hx hb dX12_row_62 rfl (lv_at hl 0 rfl) ?_
                refine mo_get X w hm hin 5 (by decide) (List.mem_of_getElem? (i := 5) rfl) rfl dX12_row_63 ?_
                refine lv_bipush (v := 40) hx hb dX12_row_66 (by decide) ?_
                refine lv_iload_n hx hb dX12_row_68 rfl (lv_at hl 1 rfl) ?_
                refine lv_imul hx hb dX12_row_69 ?_
                refine lv_iload hx hb dX12_row_70 (lv_at hl 4 rfl) ?_
                refine lv_iadd hx hb dX12_row_72 ?_
                refine lv_iconst (v := 0) hx hb dX12_row_73 (by decide) ?_
                refine mo_iast X w hm 5 (by decide) (by decide) (40 * r + k) (hs_addI (hs_mulI rfl rfl) rfl) (by show _ < 320; omega) dX12_row_74 (fun H locs w => ?_)
                refine lv_iinc (v := nI k + 1) (lv' := [(4, .int (nI k + 1)), (0, .ref mo), (1, .int (nI r)), (2, .int (lane)), (3, .int (n))]) hx hb dX12_row_75 hl (k := 4) rfl rfl (by decide) rfl (fun ls hl => ?_)
                refine lv_goto (tgt := 55) hx hb dX12_row_78 (by decide) ?_
                have hl := hs_lv hl (k := 0) rfl (nI_1 k)
                exact ih (k + 1) (by omega) (by omega) H locs ls (by rw [hs_up_up, hs_zero_s] at w; exact w) (lv_sub hl [1, 2, 3, 4, 0] rfl)
          exact loop 41 0 (by omega) (by omega) H locs ls (by rw [hs_zero_0]; have e5 : (mo_w (mo_w M 3 r (lane)) 4 r (n)) 5 = M 5 := rfl; rw [← e5, hs_up_id]; exact w) (lv_sub hl [1, 2, 3, 4, 0] rfl)
        · refine lv_aload_n hx hb dX12_row_32 rfl (lv_at hl 0 rfl) ?_
          refine lv_iconst (v := 4) hx hb dX12_row_33 (by decide) ?_
          refine hg_viF (r := (-1000010 - 4)) (As := [.int (4)]) (rest := []) X w (c_X12_found l D b0 L f mo ma M hm 4) (cwV 1 hts gX12_row_X12_found rfl rfl rfl hdX12_found ⟨Nat.le_of_ble_eq_true rfl, Nat.le_of_ble_eq_true rfl⟩) hm.1 (mo_at0 D f mo ma _) rfl rfl rfl hl.1 rfl (Nat.le_of_ble_eq_true rfl) dX12_row_34 ⟨Nat.zero_le _, Nat.zero_le _⟩ (fun H locs w => ?_)
          exact hend H locs ((-1000010 - 4)) (L, mo_F D f mo ma (mo_w M 7 0 4)) _ ls w ⟨(by (try simp only [lg_cmp_le, lg_cmp_ge, lg_cmp_lt, lg_cmp_gt, ← Int32.not_lt, ← Int64.not_lt, Classical.not_not] at c_4 c_16 c_22 c_29); first | (simp [sp_row, sp_found, sp_well, c_4, c_16, c_22, c_29, hrc]; done) | (simp [sp_row, sp_found, sp_well, c_4, c_16, c_22, c_29, hrc]; done) | (exfalso; clear hend; simp_all; done)), (congrArg (fun z => (L, mo_F D f mo ma z)) (by (try simp only [lg_cmp_le, lg_cmp_ge, lg_cmp_lt, lg_cmp_gt, ← Int32.not_lt, ← Int64.not_lt, Classical.not_not] at c_4 c_16 c_22 c_29); first | (simp [sp_row, sp_found, sp_well, c_4, c_16, c_22, c_29, hrc]; done) | (simp [sp_row, sp_found, sp_well, c_4, c_16, c_22, c_29, hrc]; done) | (exfalso; clear hend; simp_all; done)))⟩ rfl dX12_row_37
      · refine lv_ldc (v := (-1000001)) hx hb hown (hts _ (List.mem_of_getElem? (i := 2) rfl)) dX12_row_25 ?_
        exact hend H locs ((-1000001)) (L, mo_F D f mo ma M) _ ls w ⟨(by (try simp only [lg_cmp_le, lg_cmp_ge, lg_cmp_lt, lg_cmp_gt, ← Int32.not_lt, ← Int64.not_lt, Classical.not_not] at c_4 c_16 c_22); first | (simp [sp_row, sp_found, sp_well, c_4, c_16, c_22, hrc]; done) | (simp [sp_row, sp_found, sp_well, c_4, c_16, c_22, hrc]; done) | (exfalso; clear hend; simp_all; done)), (congrArg (fun z => (L, mo_F D f mo ma z)) (by (try simp only [lg_cmp_le, lg_cmp_ge, lg_cmp_lt, lg_cmp_gt, ← Int32.not_lt, ← Int64.not_lt, Classical.not_not] at c_4 c_16 c_22); first | (simp [sp_row, sp_found, sp_well, c_4, c_16, c_22, hrc]; done) | (simp [sp_row, sp_found, sp_well, c_4, c_16, c_22, hrc]; done) | (exfalso; clear hend; simp_all; done)))⟩ rfl dX12_row_27
theorem hdX12_bars : yX12_bars.cls = RX12 ∧ yX12_bars.cls ≠ "java/lang/invoke/MethodHandle" ∧ yX12_bars.cls ≠ "java/lang/invoke/VarHandle" ∧ (parseMethodDescriptor yX12_bars.desc).map (fun d => d.parameters.length) = some 3 := by decide +kernel
theorem hdX12_cutTo : yX12_cutTo.cls ≠ "java/lang/invoke/MethodHandle" ∧ yX12_cutTo.cls ≠ "java/lang/invoke/VarHandle" ∧ (parseMethodDescriptor yX12_cutTo.desc).map (fun d => d.parameters.length) = some 2 := by decide +kernel
set_option maxRecDepth 100000 in
set_option maxHeartbeats 4000000 in
/-- set -/
theorem c_X12_set (l : Launch) (D : va_G) (b0 : Nat) (L : List Nat) (f : Nat → va_E) (mo : Nat) (ma : Nat → Nat) (M : Nat → Nat → Int32) (hm : mo_ok L mo ma) (hz : ∀ r, r < 8 → ∃ z : Nat, z ≤ 40 ∧ M 4 r = nI z) (row x v : Int32) : mo_Fi l yX12_set wsX12_set ({ frames := 2, cells := 0, slots := 0, locals := 45 }) D b0 L f mo ma M [.int (row), .int (x), .int (v)] ((sp_set M row x v).1) ((sp_set M row x v).2) := by
  refine hg_in_i (cc := cX12_set) (nL := 5) (by decide) rfl (Nat.le_of_ble_eq_true rfl) (fun p e s m args below meth c R Q X hR hend H locs ls w hl => ?_)
  subst hR
  obtain ⟨hx, hb, hml, hown, hts⟩ := id X.1
  have hin : ∀ w ∈ wsX120, w ∈ wsX12_set := fun w h => List.mem_cons_of_mem _ (List.mem_append_right _ h)
  have hl : lv_has ls 5 [(0, .ref mo), (1, .int (row)), (2, .int (x)), (3, .int (v))] := hl
  refine lv_iload_n hx hb dX12_set_0 rfl (lv_at hl 1 rfl) ?_
  refine hg_siF (r := hs_row row) (As := [.int (row)]) (rest := []) X w (c_X12_isRow l D b0 L _ row) (va_cwS 1 hts gX12_set_X12_isRow rfl rfl rfl hdX12_isRow ⟨Nat.le_of_ble_eq_true rfl, Nat.le_of_ble_eq_true rfl⟩) rfl hl.1 rfl (Nat.le_of_ble_eq_true rfl) dX12_set_1 ⟨Nat.zero_le _, Nat.zero_le _⟩ (fun H locs w => ?_)
  refine lv_if_ne (tgt := 10) hx hb dX12_set_4 (by decide) (fun c_4 => ?_) (fun c_4 => ?_)
  · obtain ⟨r, hr, rfl⟩ := hs_row_1 c_4
    have hrc := hs_cl hr (by decide)
    refine lv_aload_n hx hb dX12_set_10 rfl (lv_at hl 0 rfl) ?_
    refine lv_iload_n hx hb dX12_set_11 rfl (lv_at hl 1 rfl) ?_
    refine lv_iload_n hx hb dX12_set_12 rfl (lv_at hl 2 rfl) ?_
    refine lv_iconst (v := 1) hx hb dX12_set_13 (by decide) ?_
    refine hg_viF (r := hs_bars M r x 1) (As := [.int (nI r), .int (x), .int (1)]) (rest := []) X w (c_X12_bars l D b0 L f mo ma M hm r hr x 1) (cwV 3 hts gX12_set_X12_bars rfl rfl rfl hdX12_bars ⟨Nat.le_of_ble_eq_true rfl, Nat.le_of_ble_eq_true rfl⟩) hm.1 (mo_at0 D f mo ma _) rfl rfl rfl hl.1 rfl (Nat.le_of_ble_eq_true rfl) dX12_set_14 ⟨Nat.zero_le _, Nat.zero_le _⟩ (fun H locs w => ?_)
    refine lv_istore (lv' := [(4, .int (hs_bars M r x 1)), (0, .ref mo), (1, .int (nI r)), (2, .int (x)), (3, .int (v))]) hx hb dX12_set_17 hl (by decide) rfl (fun ls hl => ?_)
    refine lv_iload hx hb dX12_set_19 (lv_at hl 0 rfl) ?_
    refine lv_if_le (tgt := 31) hx hb dX12_set_21 (by decide) (fun c_21 => ?_) (fun c_21 => ?_)
    · obtain ⟨j, hj, rfl⟩ := hs_bars_j (hz r hr) (Int32.not_lt.mpr c_21)
      have hjc : (nI j).toNatClampNeg = j := nI_clamp (by omega)
      refine lv_aload_n hx hb dX12_set_31 rfl (lv_at hl 1 rfl) ?_
      refine mo_get X w hm hin 5 (by decide) (List.mem_of_getElem? (i := 2) rfl) rfl dX12_set_32 ?_
      refine lv_bipush (v := 40) hx hb dX12_set_35 (by decide) ?_
      refine lv_iload_n hx hb dX12_set_37 rfl (lv_at hl 2 rfl) ?_
      refine lv_imul hx hb dX12_set_38 ?_
      refine lv_iload_n hx hb dX12_set_39 rfl (lv_at hl 3 rfl) ?_
      refine lv_iadd hx hb dX12_set_40 ?_
      refine lv_aload_n hx hb dX12_set_41 rfl (lv_at hl 1 rfl) ?_
      refine mo_get X w hm hin 3 (by decide) (List.mem_of_getElem? (i := 3) rfl) rfl dX12_set_42 ?_
      refine lv_iload_n hx hb dX12_set_45 rfl (lv_at hl 2 rfl) ?_
      refine mo_iald X w hm 3 (by decide) (by decide) r rfl (by show _ < 8; omega) dX12_set_46 ?_
      refine lv_iload_n hx hb dX12_set_47 rfl (lv_at hl 4 rfl) ?_
      refine hg_siF (r := hs_cut (M 3 r) v) (As := [.int (M 3 r), .int (v)]) (rest := [.int (((40 * nI r) + nI j)), .ref (ma 5)]) X w (c_X12_cutTo l D b0 L _ (M 3 r) v) (va_cwS 2 hts gX12_set_X12_cutTo rfl rfl rfl hdX12_cutTo ⟨Nat.le_of_ble_eq_true rfl, Nat.le_of_ble_eq_true rfl⟩) rfl hl.1 rfl (Nat.le_of_ble_eq_true rfl) dX12_set_48 ⟨Nat.zero_le _, Nat.zero_le _⟩ (fun H locs w => ?_)
      refine mo_iast X w hm 5 (by decide) (by decide) (40 * r + j) (hs_addI (hs_mulI rfl rfl) rfl) (by show _ < 320; omega) dX12_set_51 (fun H locs w => ?_)
      refine lv_aload_n hx hb dX12_set_52 rfl (lv_at hl 1 rfl) ?_
      refine lv_aload_n hx hb dX12_set_53 rfl (lv_at hl 1 rfl) ?_
      refine mo_get X w hm hin 5 (by decide) (List.mem_of_getElem? (i := 2) rfl) rfl dX12_set_54 ?_
      refine lv_bipush (v := 40) hx hb dX12_set_57 (by decide) ?_
      refine lv_iload_n hx hb dX12_set_59 rfl (lv_at hl 2 rfl) ?_
      refine lv_imul hx hb dX12_set_60 ?_
      refine lv_iload_n hx hb dX12_set_61 rfl (lv_at hl 3 rfl) ?_
      refine lv_iadd hx hb dX12_set_62 ?_
      refine mo_iald X w hm 5 (by decide) (by decide) (40 * r + j) (hs_addI (hs_mulI rfl rfl) rfl) (by show _ < 320; omega) dX12_set_63 ?_
      refine hg_viF (r := (mo_w M 5 (40 * r + j) (hs_cut (M 3 r) v)) 5 (40 * r + j)) (As := [.int ((mo_w M 5 (40 * r + j) (hs_cut (M 3 r) v)) 5 (40 * r + j))]) (rest := []) X w (c_X12_well l D b0 L f mo ma (mo_w M 5 (40 * r + j) (hs_cut (M 3 r) v)) hm ((mo_w M 5 (40 * r + j) (hs_cut (M 3 r) v)) 5 (40 * r + j))) (cwV 1 hts gX12_set_X12_well rfl rfl rfl hdX12_well ⟨Nat.le_of_ble_eq_true rfl, Nat.le_of_ble_eq_true rfl⟩) hm.1 (mo_at0 D f mo ma _) rfl rfl rfl hl.1 rfl (Nat.le_of_ble_eq_true rfl) dX12_set_64 ⟨Nat.zero_le _, Nat.zero_le _⟩ (fun H locs w => ?_)
      exact hend H locs ((mo_w M 5 (40 * r + j) (hs_cut (M 3 r) v)) 5 (40 * r + j)) (L, mo_F D f mo ma (mo_w (mo_w M 5 (40 * r + j) (hs_cut (M 3 r) v)) 7 0 0)) _ ls w ⟨(by (try simp only [lg_cmp_le, lg_cmp_ge, lg_cmp_lt, lg_cmp_gt, ← Int32.not_lt, ← Int64.not_lt, Classical.not_not] at c_4 c_21); first | (simp [sp_set, sp_found, sp_well, va_up, c_4, c_21, hrc, hjc]; done) | (simp [sp_set, sp_found, sp_well, va_up, c_4, c_21, hrc, hjc]; done) | (exfalso; clear hend; simp_all; done)), (congrArg (fun z => (L, mo_F D f mo ma z)) (by (try simp only [lg_cmp_le, lg_cmp_ge, lg_cmp_lt, lg_cmp_gt, ← Int32.not_lt, ← Int64.not_lt, Classical.not_not] at c_4 c_21); first | (simp [sp_set, sp_found, sp_well, c_4, c_21, hrc, hjc]; done) | (simp [sp_set, sp_found, sp_well, c_4, c_21, hrc, hjc]; done) | (exfalso; clear hend; simp_all; done)))⟩ rfl dX12_set_67
    · refine lv_aload_n hx hb dX12_set_24 rfl (lv_at hl 1 rfl) ?_
      refine lv_iload hx hb dX12_set_25 (lv_at hl 0 rfl) ?_
      refine hg_viF (r := (-1000010 - (hs_bars M r x 1))) (As := [.int (hs_bars M r x 1)]) (rest := []) X w (c_X12_found l D b0 L f mo ma M hm (hs_bars M r x 1)) (cwV 1 hts gX12_set_X12_found rfl rfl rfl hdX12_found ⟨Nat.le_of_ble_eq_true rfl, Nat.le_of_ble_eq_true rfl⟩) hm.1 (mo_at0 D f mo ma _) rfl rfl rfl hl.1 rfl (Nat.le_of_ble_eq_true rfl) dX12_set_27 ⟨Nat.zero_le _, Nat.zero_le _⟩ (fun H locs w => ?_)
      exact hend H locs ((-1000010 - (hs_bars M r x 1))) (L, mo_F D f mo ma (mo_w M 7 0 (hs_bars M r x 1))) _ ls w ⟨(by (try simp only [lg_cmp_le, lg_cmp_ge, lg_cmp_lt, lg_cmp_gt, ← Int32.not_lt, ← Int64.not_lt, Classical.not_not] at c_4 c_21); first | (simp [sp_set, sp_found, sp_well, va_up, c_4, c_21, hrc]; done) | (simp [sp_set, sp_found, sp_well, va_up, c_4, c_21, hrc]; done) | (exfalso; clear hend; simp_all; done)), (congrArg (fun z => (L, mo_F D f mo ma z)) (by (try simp only [lg_cmp_le, lg_cmp_ge, lg_cmp_lt, lg_cmp_gt, ← Int32.not_lt, ← Int64.not_lt, Classical.not_not] at c_4 c_21); first | (simp [sp_set, sp_found, sp_well, c_4, c_21, hrc]; done) | (simp [sp_set, sp_found, sp_well, c_4, c_21, hrc]; done) | (exfalso; clear hend; simp_all; done)))⟩ rfl dX12_set_30
  · refine lv_ldc (v := (-1000001)) hx hb hown (hts _ (List.mem_of_getElem? (i := 1) rfl)) dX12_set_7 ?_
    exact hend H locs ((-1000001)) (L, mo_F D f mo ma M) _ ls w ⟨(by (try simp only [lg_cmp_le, lg_cmp_ge, lg_cmp_lt, lg_cmp_gt, ← Int32.not_lt, ← Int64.not_lt, Classical.not_not] at c_4); first | (simp [sp_set, sp_found, sp_well, va_up, c_4]; done) | (simp [sp_set, sp_found, sp_well, va_up, eq_true c_4]; done) | (exfalso; clear hend; simp_all; done)), (congrArg (fun z => (L, mo_F D f mo ma z)) (by (try simp only [lg_cmp_le, lg_cmp_ge, lg_cmp_lt, lg_cmp_gt, ← Int32.not_lt, ← Int64.not_lt, Classical.not_not] at c_4); first | (simp [sp_set, sp_found, sp_well, c_4]; done) | (simp [sp_set, sp_found, sp_well, eq_true c_4]; done) | (exfalso; clear hend; simp_all; done)))⟩ rfl dX12_set_9
set_option maxRecDepth 100000 in
set_option maxHeartbeats 4000000 in
/-- feed -/
theorem c_X12_feed (l : Launch) (D : va_G) (b0 : Nat) (L : List Nat) (f : Nat → va_E) (mo : Nat) (ma : Nat → Nat) (M : Nat → Nat → Int32) (hm : mo_ok L mo ma) (t : Nat) (ht : M 9 0 = nI t) (ht1 : t ≤ 100) (b : Int32) : mo_Fi l yX12_feed wsX12_feed ({ frames := 1, cells := 0, slots := 0, locals := 25 }) D b0 L f mo ma M [.int (b)] ((sp_feed M b).1) ((sp_feed M b).2) := by
  refine hg_in_i (cc := cX12_feed) (nL := 2) (by decide) rfl (Nat.le_of_ble_eq_true rfl) (fun p e s m args below meth c R Q X hR hend H locs ls w hl => ?_)
  subst hR
  obtain ⟨hx, hb, hml, hown, hts⟩ := id X.1
  have hin : ∀ w ∈ wsX120, w ∈ wsX12_feed := fun w h => List.mem_cons_of_mem _ (List.mem_append_right _ h)
  have hl : lv_has ls 2 [(0, .ref mo), (1, .int (b))] := hl
  refine lv_iload_n hx hb dX12_feed_0 rfl (lv_at hl 1 rfl) ?_
  refine lv_i2l hx hb dX12_feed_1 rfl ?_
  refine lv_lconst (v := 0) hx hb dX12_feed_2 (by decide) ?_
  refine lv_ldc2 (v := 255) hx hb hown (hts _ (List.mem_of_getElem? (i := 1) rfl)) dX12_feed_3 ?_
  refine hg_siF (r := hs_in b 0 255) (As := [.long ((b).toInt64), .long (0), .long (255)]) (rest := []) X w (c_X12_in l D b0 L _ ((b).toInt64) 0 255 b 0 255 rfl (by decide) (by decide)) (va_cwS 3 hts gX12_feed_X12_in rfl rfl rfl hdX12_in ⟨Nat.le_of_ble_eq_true rfl, Nat.le_of_ble_eq_true rfl⟩) rfl hl.1 rfl (Nat.le_of_ble_eq_true rfl) dX12_feed_6 ⟨Nat.zero_le _, Nat.zero_le _⟩ (fun H locs w => ?_)
  refine lv_if_ne (tgt := 15) hx hb dX12_feed_9 (by decide) (fun c_9 => ?_) (fun c_9 => ?_)
  · refine lv_aload_n hx hb dX12_feed_15 rfl (lv_at hl 0 rfl) ?_
    refine mo_get X w hm hin 9 (by decide) (List.mem_of_getElem? (i := 3) rfl) rfl dX12_feed_16 ?_
    refine lv_bipush (v := 100) hx hb dX12_feed_19 (by decide) ?_
    refine lv_icmp_ne (tgt := 27) hx hb dX12_feed_21 (by decide) (fun c_21 => ?_) (fun c_21 => ?_)
    · refine lv_aload_n hx hb dX12_feed_27 rfl (lv_at hl 0 rfl) ?_
      refine mo_get X w hm hin 8 (by decide) (List.mem_of_getElem? (i := 5) rfl) rfl dX12_feed_28 ?_
      refine lv_aload_n hx hb dX12_feed_31 rfl (lv_at hl 0 rfl) ?_
      refine mo_get X w hm hin 9 (by decide) (List.mem_of_getElem? (i := 3) rfl) rfl dX12_feed_32 ?_
      refine lv_iload_n hx hb dX12_feed_35 rfl (lv_at hl 1 rfl) ?_
      refine mo_iast X w hm 8 (by decide) (by decide) t ht (by show _ < 100; rcases Nat.lt_or_ge t 100 with q | q; exact q; exact absurd (by rw [ht, show t = 100 by omega]; rfl) c_21) dX12_feed_36 (fun H locs w => ?_)
      refine lv_aload_n hx hb dX12_feed_37 rfl (lv_at hl 0 rfl) ?_
      refine lv_dup hx hb dX12_feed_38 rfl ?_
      refine mo_get X w hm hin 9 (by decide) (List.mem_of_getElem? (i := 3) rfl) rfl dX12_feed_39 ?_
      refine lv_iconst (v := 1) hx hb dX12_feed_42 (by decide) ?_
      refine lv_iadd hx hb dX12_feed_43 ?_
      refine mo_put X w hm hin 9 (by decide) (List.mem_of_getElem? (i := 3) rfl) dX12_feed_44 (fun H locs w => ?_)
      refine lv_aload_n hx hb dX12_feed_47 rfl (lv_at hl 0 rfl) ?_
      refine mo_get X w hm hin 9 (by decide) (List.mem_of_getElem? (i := 3) rfl) rfl dX12_feed_48 ?_
      exact hend H locs ((mo_w (mo_w M 8 t (b)) 9 0 (((mo_w M 8 t (b)) 9 0 + 1))) 9 0) (L, mo_F D f mo ma (mo_w (mo_w M 8 t (b)) 9 0 (((mo_w M 8 t (b)) 9 0 + 1)))) _ ls w ⟨(by (try simp only [lg_cmp_le, lg_cmp_ge, lg_cmp_lt, lg_cmp_gt, ← Int32.not_lt, ← Int64.not_lt, Classical.not_not] at c_9 c_21); first | (simp [sp_feed, va_up, c_9, c_21]; done) | (simp [sp_feed, va_up, c_9, c_21]; done) | (exfalso; clear hend; simp_all; done)), (congrArg (fun z => (L, mo_F D f mo ma z)) (by have hc : (nI t).toNatClampNeg = t := nI_clamp (by omega); have hq : ¬ nI t = 100 := (by rw [← ht]; exact c_21); simp [sp_feed, c_9, ht, hq, hc, va_up]))⟩ rfl dX12_feed_51
    · refine lv_ldc (v := (-1000003)) hx hb hown (hts _ (List.mem_of_getElem? (i := 4) rfl)) dX12_feed_24 ?_
      exact hend H locs ((-1000003)) (L, mo_F D f mo ma M) _ ls w ⟨(by (try simp only [lg_cmp_le, lg_cmp_ge, lg_cmp_lt, lg_cmp_gt, ← Int32.not_lt, ← Int64.not_lt, Classical.not_not] at c_9 c_21); first | (simp [sp_feed, va_up, c_9, c_21]; done) | (simp [sp_feed, va_up, c_9, eq_true c_21]; done) | (exfalso; clear hend; simp_all; done)), (congrArg (fun z => (L, mo_F D f mo ma z)) (by (try simp only [lg_cmp_le, lg_cmp_ge, lg_cmp_lt, lg_cmp_gt, ← Int32.not_lt, ← Int64.not_lt, Classical.not_not] at c_9 c_21); first | (simp [sp_feed, c_9, c_21]; done) | (simp [sp_feed, c_9, eq_true c_21]; done) | (exfalso; clear hend; simp_all; done)))⟩ rfl dX12_feed_26
  · refine lv_ldc (v := (-1000001)) hx hb hown (hts _ (List.mem_of_getElem? (i := 2) rfl)) dX12_feed_12 ?_
    exact hend H locs ((-1000001)) (L, mo_F D f mo ma M) _ ls w ⟨(by (try simp only [lg_cmp_le, lg_cmp_ge, lg_cmp_lt, lg_cmp_gt, ← Int32.not_lt, ← Int64.not_lt, Classical.not_not] at c_9); first | (simp [sp_feed, va_up, c_9]; done) | (simp [sp_feed, va_up, eq_true c_9]; done) | (exfalso; clear hend; simp_all; done)), (congrArg (fun z => (L, mo_F D f mo ma z)) (by (try simp only [lg_cmp_le, lg_cmp_ge, lg_cmp_lt, lg_cmp_gt, ← Int32.not_lt, ← Int64.not_lt, Classical.not_not] at c_9); first | (simp [sp_feed, c_9]; done) | (simp [sp_feed, eq_true c_9]; done) | (exfalso; clear hend; simp_all; done)))⟩ rfl dX12_feed_14
set_option maxRecDepth 100000 in
set_option maxHeartbeats 4000000 in
/-- byteAt -/
theorem c_X12_byteAt (l : Launch) (D : va_G) (b0 : Nat) (L : List Nat) (f : Nat → va_E) (mo : Nat) (ma : Nat → Nat) (M : Nat → Nat → Int32) (hm : mo_ok L mo ma) (t : Nat) (ht : M 9 0 = nI t) (ht1 : t ≤ 100) (k : Nat) (hk : k < 2 ^ 31) : mo_Fi l yX12_byteAt wsX12_byteAt ({ frames := 0, cells := 0, slots := 0, locals := 0 }) D b0 L f mo ma M [.int (nI k)] (hs_byte M k) (M) := by
  refine hg_in_i (cc := cX12_byteAt) (nL := 2) (by decide) rfl (Nat.le_of_ble_eq_true rfl) (fun p e s m args below meth c R Q X hR hend H locs ls w hl => ?_)
  subst hR
  obtain ⟨hx, hb, hml, hown, hts⟩ := id X.1
  have hin : ∀ w ∈ wsX120, w ∈ wsX12_byteAt := fun w h => List.mem_cons_of_mem _ (List.mem_append_right _ h)
  have hl : lv_has ls 2 [(0, .ref mo), (1, .int (nI k))] := hl
  refine lv_iload_n hx hb dX12_byteAt_0 rfl (lv_at hl 1 rfl) ?_
  refine lv_aload_n hx hb dX12_byteAt_1 rfl (lv_at hl 0 rfl) ?_
  refine mo_get X w hm hin 9 (by decide) (List.mem_of_getElem? (i := 1) rfl) rfl dX12_byteAt_2 ?_
  refine lv_icmp_ge (tgt := 17) hx hb dX12_byteAt_5 (by decide) (fun c_5 => ?_) (fun c_5 => ?_)
  · refine lv_iconst (v := (-1)) hx hb dX12_byteAt_17 (by decide) ?_
    exact hend H locs ((-1)) (L, mo_F D f mo ma M) _ ls w ⟨(by unfold hs_byte; rw [ht] at c_5 ⊢; rw [nI_leI (by omega) hk] at c_5; rw [nI_clamp (by omega), if_neg (by omega)]), rfl⟩ rfl dX12_byteAt_18
  · refine lv_aload_n hx hb dX12_byteAt_8 rfl (lv_at hl 0 rfl) ?_
    refine mo_get X w hm hin 8 (by decide) (List.mem_of_getElem? (i := 2) rfl) rfl dX12_byteAt_9 ?_
    refine lv_iload_n hx hb dX12_byteAt_12 rfl (lv_at hl 1 rfl) ?_
    refine mo_iald X w hm 8 (by decide) (by decide) k rfl (by show _ < 100; rw [ht] at c_5; have hq : ¬ t ≤ k := fun q => c_5 ((nI_leI (a := t) (b := k) (by omega) hk).mpr q); omega) dX12_byteAt_13 ?_
    refine lv_goto (tgt := 18) hx hb dX12_byteAt_14 (by decide) ?_
    exact hend H locs (M 8 k) (L, mo_F D f mo ma M) _ ls w ⟨(by unfold hs_byte; rw [ht] at c_5 ⊢; rw [nI_leI (by omega) hk] at c_5; rw [nI_clamp (by omega), if_pos (by omega)]), rfl⟩ rfl dX12_byteAt_18
