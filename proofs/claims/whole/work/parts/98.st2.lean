/-! THE LAW'S LOOP -/
theorem lw_63 (a : Int32) : ∃ v : Nat, v < 64 ∧ a &&& 63 = nI v := by
  refine ⟨(a &&& 63).toBitVec.toNat, ?_, ?_⟩
  · have e : (a &&& 63).toBitVec = a.toBitVec &&& 63#32 := rfl
    rw [e, BitVec.toNat_and]
    exact Nat.lt_of_le_of_lt Nat.and_le_right (by decide)
  · apply Int32.toBitVec_inj.mp
    show (a &&& 63).toBitVec = BitVec.ofNat 32 (a &&& 63).toBitVec.toNat
    simp
theorem lw_le {Ls i : Nat} (hL : Ls ≤ 384) (hi : i ≤ 384) (h : ¬ nI Ls - 6 < nI i) : i + 6 ≤ Ls := by
  rw [Int32.lt_iff_toInt_lt, Int32.toInt_sub, nI_toInt (by omega), nI_toInt (by omega)] at h
  have e6 : (6 : Int32).toInt = 6 := rfl
  rw [e6, Int.bmod_eq_of_le (by omega) (by omega)] at h
  omega
set_option maxRecDepth 100000 in
set_option maxHeartbeats 4000000 in
theorem lw_loop {p : Program} {l : Launch} {e : Env} {s : State} {m : MethodId} {args : Array Value} {below : List Frame} {meth : Method} {c : Code} {Q : State → Prop} {D : va_G} {b0 : Nat} {b Ls x mo : Nat} {xs : Nat → Int32} {ma : Nat → Nat} (X : hg_C p s m args c cL_law 4 wsL_law RL D b0) (hX : va_X b Ls xs s s.heap) (hbl : b < s.heap.size) (hbb : b < b0) (hLs : Ls ≤ 384) (kend : ∀ (H : Heap) (locs : List Loc) (ls : Array Slot), va_S (hg_A b0) s.heap H locs → W p l e room_1 s m args below meth c H locs 600000 7302250 Q (F0 m 1330 ls [])) : ∀ (fuel k : Nat), 65 ≤ fuel + k → 6 * k ≤ Ls → ∀ (L : List Nat) (F : Nat → va_E) (H : Heap) (locs : List Loc) (ls : Array Slot), lc_I D L F x mo ma → hg_W D b0 L F s.heap H locs → lv_has ls 4 [(0, .ref b), (1, .ref x), (2, .ref mo), (3, .int (nI (6 * k)))] → W p l e room_1 s m args below meth c H locs (40 + 10 * k) (2617 + 64 * k) Q (F0 m 18 ls []) := by
  obtain ⟨hx, hb, hml, hown, hts⟩ := id X.1
  intro fuel
  induction fuel with
  | zero => intro k h1 h2; omega
  | succ fuel ih =>
    intro k h1 h2 L F H locs ls hI w hl
    refine lv_iload_n hx hb dL_law_18 rfl (lv_at hl 3 rfl) ?_
    refine lv_aload_n hx hb dL_law_19 rfl (lv_at hl 0 rfl) ?_
    refine va_slen hx hb hX hbl (Nat.not_le.mpr hbb) w.2 dL_law_20 ?_
    refine lv_bipush (v := 6) hx hb dL_law_21 (by decide) ?_
    refine lv_isub hx hb dL_law_23 ?_
    refine lv_icmp_gt (tgt := 1330) hx hb dL_law_24 (by decide) (fun _ => ?_) (fun z => ?_)
    · refine W.widen (k := 600000) (n := 7302250) (by omega) (by omega) ?_
      exact kend H locs ls w.2
    · have hi : 6 * k + 6 ≤ Ls := lw_le hLs (by omega) z
      have Y : lw_C p s m args c D b0 b Ls xs (6 * k) := ⟨X, hX, hbl, hbb, hLs, hi⟩
      have cont : ∀ (L' : List Nat) (F' : Nat → va_E) (H : Heap) (locs : List Loc), lc_I D L' F' x mo ma → hg_W D b0 L' F' s.heap H locs → W p l e room_1 s m args below meth c H locs (40 + 10 * k + 10) (2617 + 64 * k + 64) Q (F0 m 1324 ls []) := by
        intro L' F' H locs hI w
        refine lv_iinc (v := nI (6 * (k + 1))) (lv' := [(3, .int (nI (6 * (k + 1)))), (0, .ref b), (1, .ref x), (2, .ref mo)]) hx hb dL_law_1324 hl (k := 3) rfl (by show nI (6 * k) + 6 = nI (6 * (k + 1)); rw [show (6 : Int32) = nI 6 from rfl, nI_add, show 6 * (k + 1) = 6 * k + 6 by omega]) (by decide) rfl (fun ls hl => ?_)
        refine lv_goto (tgt := 18) hx hb dL_law_1327 (by decide) ?_
        have := ih (k + 1) (by omega) (by omega) L' F' H locs ls hI w (lv_sub hl [1, 2, 3, 0] rfl)
        rw [show 40 + 10 * k + 10 = 40 + 10 * (k + 1) by omega, show 2617 + 64 * k + 64 = 2617 + 64 * (k + 1) by omega]
        exact this
      refine lv_aload_n hx hb dL_law_27 rfl (lv_at hl 0 rfl) ?_
      refine lv_iload_n hx hb dL_law_28 rfl (lv_at hl 3 rfl) ?_
      refine va_sld hx hb hX hbl (Nat.not_le.mpr hbb) w.2 ?_ dL_law_29 ?_
      · rintro (z | z)
        · exact nI_pos (n := 6 * k) (by omega) z
        · rw [nI_clamp (by omega)] at z; omega
      refine lv_bipush (v := 63) hx hb dL_law_30 (by decide) ?_
      refine lv_iand hx hb dL_law_32 ?_
      obtain ⟨v, hv, ev⟩ := lw_63 (xs (nI (6 * k)).toNatClampNeg)
      rw [ev]
      by_cases hv38 : 38 ≤ v
      · refine lv_tableOut (tgt := 1324) hx hb dL_law_33 (Or.inr (by rw [nI_toInt (by omega)]; omega)) (by decide) ?_
        refine W.widen (k := 40 + 10 * k + 10) (n := 2617 + 64 * k + 64) (by omega) (by omega) ?_
        exact cont L F H locs hI w
      rcases (show v = 0 ∨ v = 1 ∨ v = 2 ∨ v = 3 ∨ v = 4 ∨ v = 5 ∨ v = 6 ∨ v = 7 ∨ v = 8 ∨ v = 9 ∨ v = 10 ∨ v = 11 ∨ v = 12 ∨ v = 13 ∨ v = 14 ∨ v = 15 ∨ v = 16 ∨ v = 17 ∨ v = 18 ∨ v = 19 ∨ v = 20 ∨ v = 21 ∨ v = 22 ∨ v = 23 ∨ v = 24 ∨ v = 25 ∨ v = 26 ∨ v = 27 ∨ v = 28 ∨ v = 29 ∨ v = 30 ∨ v = 31 ∨ v = 32 ∨ v = 33 ∨ v = 34 ∨ v = 35 ∨ v = 36 ∨ v = 37 by omega) with rfl | rfl | rfl | rfl | rfl | rfl | rfl | rfl | rfl | rfl | rfl | rfl | rfl | rfl | rfl | rfl | rfl | rfl | rfl | rfl | rfl | rfl | rfl | rfl | rfl | rfl | rfl | rfl | rfl | rfl | rfl | rfl | rfl | rfl | rfl | rfl | rfl | rfl
      · refine lv_tableIn (off := 167) (tgt := 200) hx hb dL_law_33 (by decide) (by decide) (by decide) (by decide) ?_
        exact lc_row Y hl hI w (by omega) (by omega) cont
      · refine lv_tableIn (off := 210) (tgt := 243) hx hb dL_law_33 (by decide) (by decide) (by decide) (by decide) ?_
        exact lc_set Y hl hI w (by omega) (by omega) cont
      · refine lv_tableIn (off := 253) (tgt := 286) hx hb dL_law_33 (by decide) (by decide) (by decide) (by decide) ?_
        exact lc_copy Y hl hI w (by omega) (by omega) cont
      · refine lv_tableIn (off := 316) (tgt := 349) hx hb dL_law_33 (by decide) (by decide) (by decide) (by decide) ?_
        exact lc_drop Y hl hI w (by omega) (by omega) cont
      · refine lv_tableIn (off := 339) (tgt := 372) hx hb dL_law_33 (by decide) (by decide) (by decide) (by decide) ?_
        exact lc_feed Y hl hI w (by omega) (by omega) cont
      · refine lv_tableIn (off := 362) (tgt := 395) hx hb dL_law_33 (by decide) (by decide) (by decide) (by decide) ?_
        exact lc_market Y hl hI w (by omega) (by omega) cont
      · refine lv_tableIn (off := 375) (tgt := 408) hx hb dL_law_33 (by decide) (by decide) (by decide) (by decide) ?_
        exact lc_fault Y hl hI w (by omega) (by omega) cont
      · refine lv_tableIn (off := 388) (tgt := 421) hx hb dL_law_33 (by decide) (by decide) (by decide) (by decide) ?_
        exact lc_undo Y hl hI w (by omega) (by omega) cont
      · refine lv_tableIn (off := 401) (tgt := 434) hx hb dL_law_33 (by decide) (by decide) (by decide) (by decide) ?_
        exact lc_buyers Y hl hI w (by omega) (by omega) cont
      · refine lv_tableIn (off := 434) (tgt := 467) hx hb dL_law_33 (by decide) (by decide) (by decide) (by decide) ?_
        exact lc_girl Y hl hI w (by omega) (by omega) cont
      · refine lv_tableIn (off := 467) (tgt := 500) hx hb dL_law_33 (by decide) (by decide) (by decide) (by decide) ?_
        exact lc_slide Y hl hI w (by omega) (by omega) cont
      · refine lv_tableIn (off := 500) (tgt := 533) hx hb dL_law_33 (by decide) (by decide) (by decide) (by decide) ?_
        exact lc_unload Y hl hI w (by omega) (by omega) cont
      · refine lv_tableIn (off := 533) (tgt := 566) hx hb dL_law_33 (by decide) (by decide) (by decide) (by decide) ?_
        exact lc_rain Y hl hI w (by omega) (by omega) cont
      · refine lv_tableIn (off := 546) (tgt := 579) hx hb dL_law_33 (by decide) (by decide) (by decide) (by decide) ?_
        exact lc_cut Y hl hI w (by omega) (by omega) cont
      · refine lv_tableIn (off := 569) (tgt := 602) hx hb dL_law_33 (by decide) (by decide) (by decide) (by decide) ?_
        exact lc_stall Y hl hI w (by omega) (by omega) cont
      · refine lv_tableIn (off := 602) (tgt := 635) hx hb dL_law_33 (by decide) (by decide) (by decide) (by decide) ?_
        exact lc_rope Y hl hI w (by omega) (by omega) cont
      · refine lv_tableIn (off := 645) (tgt := 678) hx hb dL_law_33 (by decide) (by decide) (by decide) (by decide) ?_
        exact lc_drops Y hl hI w (by omega) (by omega) cont
      · refine lv_tableIn (off := 658) (tgt := 691) hx hb dL_law_33 (by decide) (by decide) (by decide) (by decide) ?_
        exact lc_walkway Y hl hI w (by omega) (by omega) cont
      · refine lv_tableIn (off := 691) (tgt := 724) hx hb dL_law_33 (by decide) (by decide) (by decide) (by decide) ?_
        exact lc_walkways Y hl hI w (by omega) (by omega) cont
      · refine lv_tableIn (off := 714) (tgt := 747) hx hb dL_law_33 (by decide) (by decide) (by decide) (by decide) ?_
        exact lc_even Y hl hI w (by omega) (by omega) cont
      · refine lv_tableIn (off := 757) (tgt := 790) hx hb dL_law_33 (by decide) (by decide) (by decide) (by decide) ?_
        exact lc_bestSlide Y hl hI w (by omega) (by omega) cont
      · refine lv_tableIn (off := 780) (tgt := 813) hx hb dL_law_33 (by decide) (by decide) (by decide) (by decide) ?_
        exact lc_unloaded Y hl hI w (by omega) (by omega) cont
      · refine lv_tableIn (off := 803) (tgt := 836) hx hb dL_law_33 (by decide) (by decide) (by decide) (by decide) ?_
        exact lc_whoCut Y hl hI w (by omega) (by omega) cont
      · refine lv_tableIn (off := 836) (tgt := 869) hx hb dL_law_33 (by decide) (by decide) (by decide) (by decide) ?_
        exact lc_box Y hl hI w (by omega) (by omega) cont
      · refine lv_tableIn (off := 879) (tgt := 912) hx hb dL_law_33 (by decide) (by decide) (by decide) (by decide) ?_
        exact lc_reads Y hl hI w (by omega) (by omega) cont
      · refine lv_tableIn (off := 942) (tgt := 975) hx hb dL_law_33 (by decide) (by decide) (by decide) (by decide) ?_
        exact lc_holds Y hl hI w (by omega) (by omega) cont
      · refine lv_tableIn (off := 965) (tgt := 998) hx hb dL_law_33 (by decide) (by decide) (by decide) (by decide) ?_
        exact lc_falls Y hl hI w (by omega) (by omega) cont
      · refine lv_tableIn (off := 988) (tgt := 1021) hx hb dL_law_33 (by decide) (by decide) (by decide) (by decide) ?_
        exact lc_dearest Y hl hI w (by omega) (by omega) cont
      · refine lv_tableIn (off := 1011) (tgt := 1044) hx hb dL_law_33 (by decide) (by decide) (by decide) (by decide) ?_
        exact lc_rented Y hl hI w (by omega) (by omega) cont
      · refine lv_tableIn (off := 1054) (tgt := 1087) hx hb dL_law_33 (by decide) (by decide) (by decide) (by decide) ?_
        exact lc_wind Y hl hI w (by omega) (by omega) cont
      · refine lv_tableIn (off := 1097) (tgt := 1130) hx hb dL_law_33 (by decide) (by decide) (by decide) (by decide) ?_
        exact lc_image Y hl hI w (by omega) (by omega) cont
      · refine lv_tableIn (off := 1120) (tgt := 1153) hx hb dL_law_33 (by decide) (by decide) (by decide) (by decide) ?_
        exact lc_restore Y hl hI w (by omega) (by omega) cont
      · refine lv_tableIn (off := 1143) (tgt := 1176) hx hb dL_law_33 (by decide) (by decide) (by decide) (by decide) ?_
        exact lc_kind Y hl hI w (by omega) (by omega) cont
      · refine lv_tableIn (off := 1166) (tgt := 1199) hx hb dL_law_33 (by decide) (by decide) (by decide) (by decide) ?_
        exact lc_as Y hl hI w (by omega) (by omega) cont
      · refine lv_tableIn (off := 1199) (tgt := 1232) hx hb dL_law_33 (by decide) (by decide) (by decide) (by decide) ?_
        exact lc_ask Y hl hI w (by omega) (by omega) cont
      · refine lv_tableIn (off := 1232) (tgt := 1265) hx hb dL_law_33 (by decide) (by decide) (by decide) (by decide) ?_
        exact lc_trace Y hl hI w (by omega) (by omega) cont
      · refine lv_tableIn (off := 1255) (tgt := 1288) hx hb dL_law_33 (by decide) (by decide) (by decide) (by decide) ?_
        exact lc_count Y hl hI w (by omega) (by omega) cont
      · refine lv_tableIn (off := 1278) (tgt := 1311) hx hb dL_law_33 (by decide) (by decide) (by decide) (by decide) ?_
        exact lc_status Y hl hI w (by omega) (by omega) cont
