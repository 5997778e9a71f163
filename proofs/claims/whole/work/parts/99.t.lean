/-! THE START: who the classes are; the first world -/
theorem st_I {s : State} {args : Array Value} (h : (Cond.arrayClass .int).before args s = true) : ∃ cA, ArrOfT s cA .int ∧ va_RA s cA .int := by
  obtain ⟨cA, kA, comp, h1, h2, h3⟩ := Cond.arrayClass_spec h
  exact ⟨cA, fun n z => ⟨fun k h => (by cases h), kA, h2, comp, h3⟩, h1⟩
theorem st_Z {s : State} {args : Array Value} (h : (Cond.arrayClass .boolean).before args s = true) : ∃ cA, ArrOfT s cA .boolean ∧ va_RA s cA .boolean := by
  obtain ⟨cA, kA, comp, h1, h2, h3⟩ := Cond.arrayClass_spec h
  exact ⟨cA, fun n z => ⟨fun k h => (by cases h), kA, h2, comp, h3⟩, h1⟩
theorem st_O {s : State} {args : Array Value} {C : String} (h : (Cond.arrayOver (.object C)).before args s = true) : ∃ cA, ArrOfT s cA (.object C) ∧ va_RA s cA (.object C) := by
  obtain ⟨comp, cA, kA, h1, h2, h3, h4, h5⟩ := Cond.arrayOver_spec h
  exact ⟨cA, fun N z => ⟨(fun k h => by cases h), kA, h3, comp, h4⟩, kA, comp, h3, h4, h1, h5⟩
theorem st_N1 : ∀ q ∈ ([("HungStalls", 17, yX8_init), ("HungStalls", 24, yX9_init), ("HungStalls", 65, yX5_init), ("HungStalls$Butcher", 3, yX7_init), ("HungStalls$Jeweller", 3, yX7_init), ("HungStalls$Notary", 3, yX6_init), ("HungStalls$Stall", 36, yX2_init), ("HungStalls$Stall", 39, yX0_init), ("HungStalls$Stall", 42, yX4_init), ("HungStalls$Stall", 45, yX10_init), ("HungStalls$Stall", 48, yX7_init), ("HungStalls$Table", 3, yX6_init), ("HungStalls$Vulture", 3, yX4_init)] : List (String × Nat × MethodName)), Cond.methodLinkNest q.1 q.2.1 q.2.2 "HungStalls" ∈ lw_tbl := by decide +kernel
theorem st_N2 : ∀ q ∈ ([("HungStalls$Butcher", "HungStalls$Stall"), ("HungStalls$Jeweller", "HungStalls$Stall"), ("HungStalls$Notary", "HungStalls$Stall"), ("HungStalls$Table", "HungStalls$Stall"), ("HungStalls$Vulture", "HungStalls$Stall"), ("[I", "java/lang/Cloneable"), ("HungStalls$Table", "HungStalls$Table"), ("HungStalls$Jeweller", "HungStalls$Table"), ("HungStalls$Butcher", "HungStalls$Table"), ("HungStalls$Vulture", "HungStalls$Notary")] : List (String × String)), (q.1 = "HungStalls$Table" ∧ q.2 = "HungStalls$Table") ∨ Cond.castable q.1 q.2 ∈ lw_tbl := by decide +kernel
theorem st_N3 : ∀ q ∈ ([("HungStalls$Notary", "HungStalls$Table"), ("HungStalls$Vulture", "HungStalls$Table"), ("HungStalls$Butcher", "HungStalls$Jeweller"), ("HungStalls$Notary", "HungStalls$Jeweller"), ("HungStalls$Vulture", "HungStalls$Jeweller"), ("HungStalls$Table", "HungStalls$Jeweller"), ("HungStalls$Jeweller", "HungStalls$Butcher"), ("HungStalls$Notary", "HungStalls$Butcher"), ("HungStalls$Vulture", "HungStalls$Butcher"), ("HungStalls$Table", "HungStalls$Butcher"), ("HungStalls$Jeweller", "HungStalls$Notary"), ("HungStalls$Butcher", "HungStalls$Notary"), ("HungStalls$Table", "HungStalls$Notary"), ("HungStalls$Jeweller", "HungStalls$Vulture"), ("HungStalls$Butcher", "HungStalls$Vulture"), ("HungStalls$Notary", "HungStalls$Vulture"), ("HungStalls$Table", "HungStalls$Vulture")] : List (String × String)), Cond.not (.castable q.1 q.2) ∈ flatC (Jvm.Cond.and given_1 narrow_1) := by decide +kernel
theorem st_TT {s : State} {args : Array Value} (h : (Cond.instantiable "HungStalls$Table" 7).before args s = true) : va_Nw (.castable "HungStalls$Table" "HungStalls$Table") s := by
  obtain ⟨cC, kC, hfc, -⟩ := Cond.instantiable_spec h
  unfold va_Nw
  simp only [Cond.before, Cond.holds, Cond.value, hfc]
  show s.vm.assignableAux (255 + 1) cC cC = true
  rw [Vm.assignableAux]
  simp only [beq_self_eq_true, Bool.true_or]
theorem st_N4 : Cond.declares ⟨"HungStalls$Stall", "kindTold", "()I"⟩ ∈ lw_tbl := by decide +kernel
theorem st_N5 : ∀ C ∈ (["HungStalls$Market", "HungStalls$Row", "HungStalls$Stall"] : List String), Cond.arrayOver (.object C) ∈ lw_tbl := by decide +kernel
theorem st_N {s : State} {args : Array Value} (hts : ∀ w ∈ lw_tbl, w.before args s = true) (hgv : (Jvm.Cond.and given_1 narrow_1).before args s = true) (hT : (Cond.instantiable "HungStalls$Table" 7).before args s = true) : hg_N s := by
  refine ⟨fun q hq => va_Nw.of rfl (hts _ (st_N1 q hq)), fun q hq => ?_, fun q hq => va_Nc.of (flat_of_before _ hgv _ (st_N3 q hq)), va_Nw.of rfl (hts _ st_N4), fun C hC => va_AO.of (hts _ (st_N5 C hC))⟩
  rcases st_N2 q hq with ⟨e1, e2⟩ | z
  · rw [e1, e2]; exact st_TT hT
  · exact va_Nw.of rfl (hts _ z)
theorem st_i0 : Cond.instantiable RX0 7 ∈ lw_tbl := by decide +kernel
theorem st_i1 : Cond.instantiable RX2 7 ∈ lw_tbl := by decide +kernel
theorem st_i2 : Cond.instantiable RX3 6 ∈ lw_tbl := by decide +kernel
theorem st_i3 : Cond.instantiable RX4 7 ∈ lw_tbl := by decide +kernel
theorem st_i4 : Cond.instantiable RX5 3 ∈ lw_tbl := by decide +kernel
theorem st_i5 : Cond.instantiable RX7 7 ∈ lw_tbl := by decide +kernel
theorem st_i6 : Cond.instantiable RX8 5 ∈ lw_tbl := by decide +kernel
theorem st_i7 : Cond.instantiable RX9 2 ∈ lw_tbl := by decide +kernel
theorem st_i8 : Cond.instantiable RX10 7 ∈ lw_tbl := by decide +kernel
theorem st_i9 : Cond.instantiable RX11 12 ∈ lw_tbl := by decide +kernel
theorem st_i10 : Cond.instantiable RX12 19 ∈ lw_tbl := by decide +kernel
theorem st_aI : Cond.arrayClass .int ∈ lw_tbl := by decide +kernel
theorem st_aZ : Cond.arrayClass .boolean ∈ lw_tbl := by decide +kernel
theorem st_K {s : State} {args : Array Value} (hts : ∀ w ∈ lw_tbl, w.before args s = true) (hgv : (Jvm.Cond.and given_1 narrow_1).before args s = true) : ∃ D : va_G, hg_K D s := by
  obtain ⟨c0, i0, h0⟩ := u_known (C := RX0) (T := TX0) (N := 7) (n := 7) hts wsX00_in (hts _ st_i0)
  obtain ⟨c1, i1, h1⟩ := u_known (C := RX2) (T := TX2) (N := 7) (n := 7) hts wsX20_in (hts _ st_i1)
  obtain ⟨c2, i2, h2⟩ := u_known (C := RX3) (T := TX3) (N := 6) (n := 6) hts wsX30_in (hts _ st_i2)
  obtain ⟨c3, i3, h3⟩ := u_known (C := RX4) (T := TX4) (N := 7) (n := 7) hts wsX40_in (hts _ st_i3)
  obtain ⟨c4, i4, h4⟩ := u_known (C := RX5) (T := TX5) (N := 3) (n := 3) hts wsX50_in (hts _ st_i4)
  obtain ⟨c5, i5, h5⟩ := u_known (C := RX7) (T := TX7) (N := 7) (n := 7) hts wsX70_in (hts _ st_i5)
  obtain ⟨c6, i6, h6⟩ := u_known (C := RX8) (T := TX8) (N := 5) (n := 5) hts wsX80_in (hts _ st_i6)
  obtain ⟨c7, i7, h7⟩ := u_known (C := RX9) (T := TX9) (N := 2) (n := 2) hts wsX90_in (hts _ st_i7)
  obtain ⟨c8, i8, h8⟩ := u_known (C := RX10) (T := TX10) (N := 7) (n := 7) hts wsX100_in (hts _ st_i8)
  obtain ⟨c9, i9, h9⟩ := u_known (C := RX11) (T := TX11) (N := 12) (n := 12) hts wsX110_in (hts _ st_i9)
  obtain ⟨c10, i10, h10⟩ := u_known (C := RX12) (T := TX12) (N := 19) (n := 19) hts wsX120_in (hts _ st_i10)
  obtain ⟨a0, r0⟩ := st_I (hts _ st_aI)
  obtain ⟨a1, r1⟩ := st_Z (hts _ st_aZ)
  obtain ⟨a2, r2⟩ := st_O (hts _ (st_N5 "HungStalls$Market" (List.mem_of_getElem? (i := 0) rfl)))
  obtain ⟨a3, r3⟩ := st_O (hts _ (st_N5 "HungStalls$Row" (List.mem_of_getElem? (i := 1) rfl)))
  obtain ⟨a4, r4⟩ := st_O (hts _ (st_N5 "HungStalls$Stall" (List.mem_of_getElem? (i := 2) rfl)))
  refine ⟨(fun k => match k with | 0 => c0 | 1 => c1 | 2 => c2 | 3 => c3 | 4 => c4 | 5 => c5 | 6 => c6 | 7 => c7 | 8 => c8 | 9 => c9 | 10 => c10 | 11 => a0 | 12 => a1 | 13 => a2 | 14 => a3 | _ => a4, fun k => match k with | 0 => i0 | 1 => i1 | 2 => i2 | 3 => i3 | 4 => i4 | 5 => i5 | 6 => i6 | 7 => i7 | 8 => i8 | 9 => i9 | _ => i10), ⟨fun k q hq => ?_, fun k q hq => ?_⟩, st_N hts hgv (hts _ st_i5)⟩
  · match k, hq with
    | 0, hq => cases hq; exact h0
    | 1, hq => cases hq; exact h1
    | 2, hq => cases hq; exact h2
    | 3, hq => cases hq; exact h3
    | 4, hq => cases hq; exact h4
    | 5, hq => cases hq; exact h5
    | 6, hq => cases hq; exact h6
    | 7, hq => cases hq; exact h7
    | 8, hq => cases hq; exact h8
    | 9, hq => cases hq; exact h9
    | 10, hq => cases hq; exact h10
    | k + 11, hq => exact absurd hq (by simp)
  · match k, hq with
    | 0, hq => cases hq; exact r0
    | 1, hq => cases hq; exact r1
    | 2, hq => cases hq; exact r2
    | 3, hq => cases hq; exact r3
    | 4, hq => cases hq; exact r4
    | k + 5, hq => exact absurd hq (by simp)
theorem lc_I0 : ag_I ob_C0 mo_M0 0 0 0 := by
  have e : ∀ j, j < 50 → mk_g0 0 0 j = mo_M0 0 j := by
    intro j _
    unfold mk_g0
    split
    · rfl
    split
    · rfl
    · rfl
  refine ⟨fun k _ => rfl, ⟨fun r _ => ⟨0, by omega, rfl⟩, fun r hr => Or.inl ?_⟩, ⟨0, by omega, rfl⟩, ⟨0, by omega, rfl⟩, ⟨rfl, by omega⟩, ⟨0, rfl⟩, ag_V_c e (cr_V_V (cr_V_0 ⟨by decide, by decide⟩)), Or.inl ⟨rfl, rfl, rfl, rfl⟩, fun i hi => absurd hi (by omega)⟩
  show (if r < 8 then (-1 : Int32) else 0) = -1
  rw [if_pos hr]
theorem lc_start {D : va_G} {L1 L2 : List Nat} {f : Nat → va_E} {oa : Nat → Nat} {mk : Nat} {ad : Nat → Nat} {q1 : Nat} {ma : Nat → Nat} {x : va_E} (ho : ob_ok L1 oa mk ad 0) (hm : mk_ok L1 mk ad 0) (hq : q1 ∉ L1) (hma : ∀ k ∈ mo_ks, ma k ∉ L1) (hmo : mo_ok L2 q1 ma) (hL : ∀ a ∈ L1, a ∈ L2) : lc_I D L2 (mo_F D (va_up (ob_W D f oa ob_C0 mk (fun _ => none) mk ad 0 (mk_g0 0 0)) q1 x) q1 ma mo_M0) (oa 0) q1 ma := by
  have out : ∀ a ∈ L1, mo_F D (va_up (ob_W D f oa ob_C0 mk (fun _ => none) mk ad 0 (mk_g0 0 0)) q1 x) q1 ma mo_M0 a = ob_W D f oa ob_C0 mk (fun _ => none) mk ad 0 (mk_g0 0 0) a := by
    intro a ha
    rw [mo_out (fun e => hq (by rw [← e]; exact ha)) (fun k hk e => hma k hk (by rw [e]; exact ha)), va_up_ne _ _ (fun e => hq (by rw [← e]; exact ha))]
  have e : ∀ j, j < 50 → mk_g0 0 0 j = mo_M0 0 j := by
    intro j _
    unfold mk_g0
    split
    · rfl
    split
    · rfl
    · rfl
  refine ⟨oa, ob_C0, mo_M0, mk, ad, 0, 0, fun _ => none, fun a => if a ∈ L1 then wl_re (fun _ => 0) mk ad 0 2 a else 1, rfl, fun k hk => ?_, ?_, mo_H_F hmo, ob_ok_L ho hL, mk_ok_L hm hL, hmo, fun k hk => ?_, ⟨?_, fun j hj => ?_⟩, ⟨?_, fun k hk => ?_⟩, fun k hk => Or.inl ⟨rfl, rfl⟩, 0, lc_I0⟩
  · rw [out _ (ho.1 k hk).1]
    unfold ob_W
    rw [mk_out (ho.1 k hk).2.1 (ho.1 k hk).2.2, ob_at ho.2 hk]
  · exact mk_H_c (by omega) e (mk_H_fr (F := ob_W D f oa ob_C0 mk (fun _ => none) mk ad 0 (mk_g0 0 0)) (mk_H_F hm) (out _ hm.1) (fun j hj => out _ (hm.2.1 j hj).1))
  · show (if oa k ∈ L1 then _ else _) = 0
    rw [if_pos (ho.1 k hk).1, wl_re_o _ (ho.1 k hk).2.1 (ho.1 k hk).2.2 (by decide)]
  · show (if mk ∈ L1 then _ else _) = 2
    rw [if_pos hm.1, wl_re_m]
  · show (if ad j ∈ L1 then _ else _) = 2
    rw [if_pos (hm.2.1 j hj).1, wl_re_a _ _ _ _ _ hj]
  · show (if q1 ∈ L1 then _ else _) = 1
    rw [if_neg hq]
  · show (if ma k ∈ L1 then _ else _) = 1
    rw [if_neg (hma k hk)]
/-! THE LAW'S LOOP -/
theorem lw_63 (a : Int32) : ∃ v : Nat, v < 64 ∧ a &&& 63 = nI v := by
  refine ⟨(a &&& 63).toBitVec.toNat, ?_, ?_⟩
  · have e : (a &&& 63).toBitVec = a.toBitVec &&& 63#32 := rfl
    rw [e, BitVec.toNat_and]
    exact Nat.lt_of_le_of_lt Nat.and_le_right (by decide)
  · apply Int32.toBitVec_inj.mp
    show (a &&& 63).toBitVec = BitVec.ofNat 32 (a &&& 63).toBitVec.toNat
    simp
theorem lw_le {Ls i : Nat} (hL : Ls ≤ 384) (hi : i ≤ 384) (h : ¬ nI Ls - 6 < nI i) : i + 6 ≤ Ls := by
  rw [Int32.lt_iff_toInt_lt, Int32.toInt_sub, nI_toInt (by omega), nI_toInt (by omega)] at h
  have e6 : (6 : Int32).toInt = 6 := rfl
  rw [e6, Int.bmod_eq_of_le (by omega) (by omega)] at h
  omega
set_option maxRecDepth 100000 in
set_option maxHeartbeats 4000000 in
theorem lw_loop {p : Program} {l : Launch} {e : Env} {s : State} {m : MethodId} {args : Array Value} {below : List Frame} {meth : Method} {c : Code} {Q : State → Prop} {D : va_G} {b0 : Nat} {b Ls x mo : Nat} {xs : Nat → Int32} {ma : Nat → Nat} (X : hg_C p s m args c cL_law 4 wsL_law RL D b0) (hX : va_X b Ls xs s s.heap) (hbl : b < s.heap.size) (hbb : b < b0) (hLs : Ls ≤ 384) (kend : ∀ (H : Heap) (locs : List Loc) (ls : Array Slot), va_S (hg_A b0) s.heap H locs → W p l e room_1 s m args below meth c H locs 600000 7302250 Q (F0 m 1330 ls [])) : ∀ (fuel k : Nat), 65 ≤ fuel + k → 6 * k ≤ Ls → ∀ (L : List Nat) (F : Nat → va_E) (H : Heap) (locs : List Loc) (ls : Array Slot), lc_I D L F x mo ma → hg_W D b0 L F s.heap H locs → lv_has ls 4 [(0, .ref b), (1, .ref x), (2, .ref mo), (3, .int (nI (6 * k)))] → W p l e room_1 s m args below meth c H locs (40 + 10 * k) (2617 + 64 * k) Q (F0 m 18 ls []) := by
  obtain ⟨hx, hb, hml, hown, hts⟩ := id X.1
  intro fuel
  induction fuel with
  | zero => intro k h1 h2; omega
  | succ fuel ih =>
    intro k h1 h2 L F H locs ls hI w hl
    refine lv_iload_n hx hb dL_law_18 rfl (lv_at hl 3 rfl) ?_
    refine lv_aload_n hx hb dL_law_19 rfl (lv_at hl 0 rfl) ?_
    refine va_slen hx hb hX hbl (Nat.not_le.mpr hbb) w.2 dL_law_20 ?_
    refine lv_bipush (v := 6) hx hb dL_law_21 (by decide) ?_
    refine lv_isub hx hb dL_law_23 ?_
    refine lv_icmp_gt (tgt := 1330) hx hb dL_law_24 (by decide) (fun _ => ?_) (fun z => ?_)
    · refine W.widen (k := 600000) (n := 7302250) (by omega) (by omega) ?_
      exact kend H locs ls w.2
    · have hi : 6 * k + 6 ≤ Ls := lw_le hLs (by omega) z
      have Y : lw_C p s m args c D b0 b Ls xs (6 * k) := ⟨X, hX, hbl, hbb, hLs, hi⟩
      have cont : ∀ (L' : List Nat) (F' : Nat → va_E) (H : Heap) (locs : List Loc), lc_I D L' F' x mo ma → hg_W D b0 L' F' s.heap H locs → W p l e room_1 s m args below meth c H locs (40 + 10 * k + 10) (2617 + 64 * k + 64) Q (F0 m 1324 ls []) := by
        intro L' F' H locs hI w
        refine lv_iinc (v := nI (6 * (k + 1))) (lv' := [(3, .int (nI (6 * (k + 1)))), (0, .ref b), (1, .ref x), (2, .ref mo)]) hx hb dL_law_1324 hl (k := 3) rfl (by show nI (6 * k) + 6 = nI (6 * (k + 1)); rw [show (6 : Int32) = nI 6 from rfl, nI_add, show 6 * (k + 1) = 6 * k + 6 by omega]) (by decide) rfl (fun ls hl => ?_)
        refine lv_goto (tgt := 18) hx hb dL_law_1327 (by decide) ?_
        have := ih (k + 1) (by omega) (by omega) L' F' H locs ls hI w (lv_sub hl [1, 2, 3, 0] rfl)
        rw [show 40 + 10 * k + 10 = 40 + 10 * (k + 1) by omega, show 2617 + 64 * k + 64 = 2617 + 64 * (k + 1) by omega]
        exact this
      refine lv_aload_n hx hb dL_law_27 rfl (lv_at hl 0 rfl) ?_
      refine lv_iload_n hx hb dL_law_28 rfl (lv_at hl 3 rfl) ?_
      refine va_sld hx hb hX hbl (Nat.not_le.mpr hbb) w.2 ?_ dL_law_29 ?_
      · rintro (z | z)
        · exact nI_pos (n := 6 * k) (by omega) z
        · rw [nI_clamp (by omega)] at z; omega
      refine lv_bipush (v := 63) hx hb dL_law_30 (by decide) ?_
      refine lv_iand hx hb dL_law_32 ?_
      obtain ⟨v, hv, ev⟩ := lw_63 (xs (nI (6 * k)).toNatClampNeg)
      rw [ev]
      by_cases hv38 : 38 ≤ v
      · refine lv_tableOut (tgt := 1324) hx hb dL_law_33 (Or.inr (by rw [nI_toInt (by omega)]; omega)) (by decide) ?_
        refine W.widen (k := 40 + 10 * k + 10) (n := 2617 + 64 * k + 64) (by omega) (by omega) ?_
        exact cont L F H locs hI w
      rcases (show v = 0 ∨ v = 1 ∨ v = 2 ∨ v = 3 ∨ v = 4 ∨ v = 5 ∨ v = 6 ∨ v = 7 ∨ v = 8 ∨ v = 9 ∨ v = 10 ∨ v = 11 ∨ v = 12 ∨ v = 13 ∨ v = 14 ∨ v = 15 ∨ v = 16 ∨ v = 17 ∨ v = 18 ∨ v = 19 ∨ v = 20 ∨ v = 21 ∨ v = 22 ∨ v = 23 ∨ v = 24 ∨ v = 25 ∨ v = 26 ∨ v = 27 ∨ v = 28 ∨ v = 29 ∨ v = 30 ∨ v = 31 ∨ v = 32 ∨ v = 33 ∨ v = 34 ∨ v = 35 ∨ v = 36 ∨ v = 37 by omega) with rfl | rfl | rfl | rfl | rfl | rfl | rfl | rfl | rfl | rfl | rfl | rfl | rfl | rfl | rfl | rfl | rfl | rfl | rfl | rfl | rfl | rfl | rfl | rfl | rfl | rfl | rfl | rfl | rfl | rfl | rfl | rfl | rfl | rfl | rfl | rfl | rfl | rfl
      · refine lv_tableIn (off := 167) (tgt := 200) hx hb dL_law_33 (by decide) (by decide) (by decide) (by decide) ?_
        exact lc_row Y hl hI w (by omega) (by omega) cont
      · refine lv_tableIn (off := 210) (tgt := 243) hx hb dL_law_33 (by decide) (by decide) (by decide) (by decide) ?_
        exact lc_set Y hl hI w (by omega) (by omega) cont
      · refine lv_tableIn (off := 253) (tgt := 286) hx hb dL_law_33 (by decide) (by decide) (by decide) (by decide) ?_
        exact lc_copy Y hl hI w (by omega) (by omega) cont
      · refine lv_tableIn (off := 316) (tgt := 349) hx hb dL_law_33 (by decide) (by decide) (by decide) (by decide) ?_
        exact lc_drop Y hl hI w (by omega) (by omega) cont
      · refine lv_tableIn (off := 339) (tgt := 372) hx hb dL_law_33 (by decide) (by decide) (by decide) (by decide) ?_
        exact lc_feed Y hl hI w (by omega) (by omega) cont
      · refine lv_tableIn (off := 362) (tgt := 395) hx hb dL_law_33 (by decide) (by decide) (by decide) (by decide) ?_
        exact lc_market Y hl hI w (by omega) (by omega) cont
      · refine lv_tableIn (off := 375) (tgt := 408) hx hb dL_law_33 (by decide) (by decide) (by decide) (by decide) ?_
        exact lc_fault Y hl hI w (by omega) (by omega) cont
      · refine lv_tableIn (off := 388) (tgt := 421) hx hb dL_law_33 (by decide) (by decide) (by decide) (by decide) ?_
        exact lc_undo Y hl hI w (by omega) (by omega) cont
      · refine lv_tableIn (off := 401) (tgt := 434) hx hb dL_law_33 (by decide) (by decide) (by decide) (by decide) ?_
        exact lc_buyers Y hl hI w (by omega) (by omega) cont
      · refine lv_tableIn (off := 434) (tgt := 467) hx hb dL_law_33 (by decide) (by decide) (by decide) (by decide) ?_
        exact lc_girl Y hl hI w (by omega) (by omega) cont
      · refine lv_tableIn (off := 467) (tgt := 500) hx hb dL_law_33 (by decide) (by decide) (by decide) (by decide) ?_
        exact lc_slide Y hl hI w (by omega) (by omega) cont
      · refine lv_tableIn (off := 500) (tgt := 533) hx hb dL_law_33 (by decide) (by decide) (by decide) (by decide) ?_
        exact lc_unload Y hl hI w (by omega) (by omega) cont
      · refine lv_tableIn (off := 533) (tgt := 566) hx hb dL_law_33 (by decide) (by decide) (by decide) (by decide) ?_
        exact lc_rain Y hl hI w (by omega) (by omega) cont
      · refine lv_tableIn (off := 546) (tgt := 579) hx hb dL_law_33 (by decide) (by decide) (by decide) (by decide) ?_
        exact lc_cut Y hl hI w (by omega) (by omega) cont
      · refine lv_tableIn (off := 569) (tgt := 602) hx hb dL_law_33 (by decide) (by decide) (by decide) (by decide) ?_
        exact lc_stall Y hl hI w (by omega) (by omega) cont
      · refine lv_tableIn (off := 602) (tgt := 635) hx hb dL_law_33 (by decide) (by decide) (by decide) (by decide) ?_
        exact lc_rope Y hl hI w (by omega) (by omega) cont
      · refine lv_tableIn (off := 645) (tgt := 678) hx hb dL_law_33 (by decide) (by decide) (by decide) (by decide) ?_
        exact lc_drops Y hl hI w (by omega) (by omega) cont
      · refine lv_tableIn (off := 658) (tgt := 691) hx hb dL_law_33 (by decide) (by decide) (by decide) (by decide) ?_
        exact lc_walkway Y hl hI w (by omega) (by omega) cont
      · refine lv_tableIn (off := 691) (tgt := 724) hx hb dL_law_33 (by decide) (by decide) (by decide) (by decide) ?_
        exact lc_walkways Y hl hI w (by omega) (by omega) cont
      · refine lv_tableIn (off := 714) (tgt := 747) hx hb dL_law_33 (by decide) (by decide) (by decide) (by decide) ?_
        exact lc_even Y hl hI w (by omega) (by omega) cont
      · refine lv_tableIn (off := 757) (tgt := 790) hx hb dL_law_33 (by decide) (by decide) (by decide) (by decide) ?_
        exact lc_bestSlide Y hl hI w (by omega) (by omega) cont
      · refine lv_tableIn (off := 780) (tgt := 813) hx hb dL_law_33 (by decide) (by decide) (by decide) (by decide) ?_
        exact lc_unloaded Y hl hI w (by omega) (by omega) cont
      · refine lv_tableIn (off := 803) (tgt := 836) hx hb dL_law_33 (by decide) (by decide) (by decide) (by decide) ?_
        exact lc_whoCut Y hl hI w (by omega) (by omega) cont
      · refine lv_tableIn (off := 836) (tgt := 869) hx hb dL_law_33 (by decide) (by decide) (by decide) (by decide) ?_
        exact lc_box Y hl hI w (by omega) (by omega) cont
      · refine lv_tableIn (off := 879) (tgt := 912) hx hb dL_law_33 (by decide) (by decide) (by decide) (by decide) ?_
        exact lc_reads Y hl hI w (by omega) (by omega) cont
      · refine lv_tableIn (off := 942) (tgt := 975) hx hb dL_law_33 (by decide) (by decide) (by decide) (by decide) ?_
        exact lc_holds Y hl hI w (by omega) (by omega) cont
      · refine lv_tableIn (off := 965) (tgt := 998) hx hb dL_law_33 (by decide) (by decide) (by decide) (by decide) ?_
        exact lc_falls Y hl hI w (by omega) (by omega) cont
      · refine lv_tableIn (off := 988) (tgt := 1021) hx hb dL_law_33 (by decide) (by decide) (by decide) (by decide) ?_
        exact lc_dearest Y hl hI w (by omega) (by omega) cont
      · refine lv_tableIn (off := 1011) (tgt := 1044) hx hb dL_law_33 (by decide) (by decide) (by decide) (by decide) ?_
        exact lc_rented Y hl hI w (by omega) (by omega) cont
      · refine lv_tableIn (off := 1054) (tgt := 1087) hx hb dL_law_33 (by decide) (by decide) (by decide) (by decide) ?_
        exact lc_wind Y hl hI w (by omega) (by omega) cont
      · refine lv_tableIn (off := 1097) (tgt := 1130) hx hb dL_law_33 (by decide) (by decide) (by decide) (by decide) ?_
        exact lc_image Y hl hI w (by omega) (by omega) cont
      · refine lv_tableIn (off := 1120) (tgt := 1153) hx hb dL_law_33 (by decide) (by decide) (by decide) (by decide) ?_
        exact lc_restore Y hl hI w (by omega) (by omega) cont
      · refine lv_tableIn (off := 1143) (tgt := 1176) hx hb dL_law_33 (by decide) (by decide) (by decide) (by decide) ?_
        exact lc_kind Y hl hI w (by omega) (by omega) cont
      · refine lv_tableIn (off := 1166) (tgt := 1199) hx hb dL_law_33 (by decide) (by decide) (by decide) (by decide) ?_
        exact lc_as Y hl hI w (by omega) (by omega) cont
      · refine lv_tableIn (off := 1199) (tgt := 1232) hx hb dL_law_33 (by decide) (by decide) (by decide) (by decide) ?_
        exact lc_ask Y hl hI w (by omega) (by omega) cont
      · refine lv_tableIn (off := 1232) (tgt := 1265) hx hb dL_law_33 (by decide) (by decide) (by decide) (by decide) ?_
        exact lc_trace Y hl hI w (by omega) (by omega) cont
      · refine lv_tableIn (off := 1255) (tgt := 1288) hx hb dL_law_33 (by decide) (by decide) (by decide) (by decide) ?_
        exact lc_count Y hl hI w (by omega) (by omega) cont
      · refine lv_tableIn (off := 1278) (tgt := 1311) hx hb dL_law_33 (by decide) (by decide) (by decide) (by decide) ?_
        exact lc_status Y hl hI w (by omega) (by omega) cont
/-! THE CLAIM OUT OF ONE WALK OF THE LAW'S BODY. Your part is whole_start (and what it stands on); all else here is the same for every law, but numbers. -/
def R_law : String := "HungStallsLaw"
def lw_P (b : Addr) (xs : List Int32) (args : Array Value) (s : State) : Prop := args = #[.ref b] ∧ s.IntsAt b xs ∧ xs.length ≤ 384 ∧ (Jvm.Cond.and given_1 narrow_1).before args s = true
def lw_Q (_ : Array Value) (s : State) (o : Outcome) (t : State) : Prop := o = .returned (some (.int 1)) ∧ Framed s o t [] 600000 7302250
def lw_Z (below : List Frame) (a : Array Value) (s : State) : State → Prop := fun t => ∃ o, t.status = .running ∧ Ended t below o ∧ lw_Q a s o t
/-- the law's own end, with 1 on the stack, nothing written that was there before, its room as the claim has it -/
theorem lw_ret {p : Program} {l : Launch} {e : Env} {s : State} {m : MethodId} {below : List Frame} {meth : Method} {c : Code} {b : Nat} (hx : p.tables.exec = Jvm.exec) (hb : c.code = code) (hr : meth.sig.returnType = ret) (hlocks : meth.locks = false) {pc : Nat} {H : Heap} {ls : Array Slot} (hdg : decode code pc = .ok (.ireturn, 1)) : W p l e room_1 s m #[Value.ref b] below meth c H [] 600000 7302250 (lw_Z below #[Value.ref b] s) (F0 m pc ls [.int 1]) := by
  intro T hT X
  obtain ⟨fs, hret, hrun, hended, hW, hframe⟩ := X.leave (v := some (.int 1)) (hlocks := hlocks) (fun h => by rw [hr] at h; cases h)
  have hmeth' : T.vm.method? m = some meth := X.method'
  refine ⟨T.setFrames fs, ?_, .returned (some (.int 1)), hrun, hended, rfl, ⟨_, rfl⟩, hW, hframe⟩
  jvm_step X.here [X.here.top, hx, hb, hdg, hmeth', hr, ret, narrow_b1]
  (try refine ⟨rfl, ?_⟩); (try refine ⟨rfl, ?_⟩)
  first | (intro acts; rw [hret _ acts rfl rfl rfl]) | rw [hret _ _ rfl rfl rfl]
  exact Steps.refl _
/-- what holds at the law's entry: the machine, the code, the tables' words (any of lw_tbl by 'hts w (by decide +kernel)'), the script of L ints xs at the cell b, what the Statement gives of the start (any of its parts by flat_of_before) -/
def lw_At (p : Program) (s : State) (m : MethodId) (meth : Method) (c : Code) (b L : Nat) (xs : Nat → Int32) : Prop :=
  p.tables.exec = Jvm.exec ∧ c.code = code ∧ meth.sig.returnType = ret ∧ c.maxLocals = 4 ∧ s.vm.findClass R_law = some m.cls ∧ (∀ w ∈ lw_tbl, w.before #[Value.ref b] s = true) ∧ va_X b L xs s s.heap ∧ b < s.heap.size ∧ meth.locks = false ∧ (Jvm.Cond.and given_1 narrow_1).before #[Value.ref b] s = true
theorem hdL_X11_init : yX11_init.cls ≠ "java/lang/invoke/MethodHandle" ∧ yX11_init.cls ≠ "java/lang/invoke/VarHandle" ∧ (parseMethodDescriptor yX11_init.desc).map (fun d => d.parameters.length) = some 0 := by decide +kernel
theorem hdL_X12_init : yX12_init.cls ≠ "java/lang/invoke/MethodHandle" ∧ yX12_init.cls ≠ "java/lang/invoke/VarHandle" ∧ (parseMethodDescriptor yX12_init.desc).map (fun d => d.parameters.length) = some 0 := by decide +kernel
theorem inlX11 : ∀ w ∈ wsX110, w ∈ wsL_law := fun _ h => List.mem_append_left _ (List.mem_append_left _ (List.mem_append_left _ (List.mem_append_left _ (List.mem_append_left _ (List.mem_append_left _ (List.mem_append_left _ (List.mem_append_left _ (List.mem_append_left _ (List.mem_append_left _ (List.mem_append_left _ (List.mem_append_right _ h)))))))))))
theorem inlX12 : ∀ w ∈ wsX120, w ∈ wsL_law := fun _ h => List.mem_append_left _ (List.mem_append_left _ (List.mem_append_left _ (List.mem_append_left _ (List.mem_append_left _ (List.mem_append_left _ (List.mem_append_left _ (List.mem_append_left _ (List.mem_append_left _ (List.mem_append_left _ (List.mem_append_right _ h))))))))))
set_option maxRecDepth 100000 in
set_option maxHeartbeats 4000000 in
/-- YOUR PART: from the entry, for every script of at most 384 ints, the law comes to its end with true ('hflags': the launch's flags, for a law that throws: no stack traces) -/
theorem whole_start {p : Program} {e : Env} {s : State} {m : MethodId} {below : List Frame} {meth : Method} {c : Code} (l : Launch) (hflags : l.flags = flags0) {b L : Nat} {xs : Nat → Int32} (hL : L ≤ 384) (C0 : lw_At p s m meth c b L xs) : W p l e room_1 s m #[Value.ref b] below meth c s.heap [] 0 0 (lw_Z below #[Value.ref b] s) (entryFrame m ([Value.ref b] : List Value).toArray 4) := by
  obtain ⟨hx, hb, hr, hml, hown, hts, hX, hbl, hlocks, hgv⟩ := id C0
  obtain ⟨D, hK⟩ := st_K hts hgv
  have hts' : ∀ w ∈ wsL_law, w.before #[Value.ref b] s = true := fun w h => hts w (wsL_law_in w h)
  have X : hg_C p s m #[Value.ref b] c cL_law 4 wsL_law RL D s.heap.size := ⟨⟨hx, hb, hml, hown, hts'⟩, hK, Nat.le_refl _⟩
  have w : hg_W D s.heap.size [] (fun _ => .inr (0, [])) s.heap s.heap [] := ⟨⟨fun k q h => by simp [va_pl] at h, ⟨fun i j p q h => by simp [va_pl] at h, fun k q h => by simp [va_pl] at h⟩⟩, va_S.rf⟩
  have hl := lv_entry ([.ref b]) (n := 4) (Nat.le_of_ble_eq_true rfl)
  rw [lg_entry_eq]
  generalize (lg_sl ([.ref b]) ++ List.replicate (4 - (lg_sl ([.ref b])).length) Slot.unset).toArray = ls at hl ⊢
  have hl : lv_has ls 4 [(0, .ref b)] := hl
  refine hg_new X w (C := RX11) (T := TX11) (N := 12) (ci := 9) (ty0 := tyX11) inlX11 tyX11_ok rfl (List.mem_of_getElem? (i := 0) rfl) (List.mem_of_getElem? (i := 1) rfl) (List.mem_of_getElem? (i := 2) rfl) (fs := [.null, .null, .null, .null, .null, .null, .null, .null, .int 0, .null, .int 0, .int 0]) (fun j hj => by match j, hj with | 0, _ | 1, _ | 2, _ | 3, _ | 4, _ | 5, _ | 6, _ | 7, _ | 8, _ | 9, _ | 10, _ | 11, _ => rfl) (Nat.le_of_ble_eq_true rfl) (Nat.le_of_ble_eq_true rfl) dL_law_0 (fun q0 H hq0 w => ?_)
  refine lv_dup hx hb dL_law_3 rfl ?_
  refine hg_init (As := []) (rest := [.ref q0]) X w (c_X11_init l D s.heap.size ([] ++ [q0]) (va_up (fun _ => .inr (0, [])) q0 (.inr (9, [.null, .null, .null, .null, .null, .null, .null, .null, .int 0, .null, .int 0, .int 0]))) q0 (List.mem_append_right _ (List.mem_of_getElem? (i := 0) rfl)) (va_up_self _ _ _)) (cwI 0 hts' ggL_law_X11_init rfl rfl rfl (hts' _ (List.mem_of_getElem? (i := 2) rfl)) (hts' _ (List.mem_of_getElem? (i := 6) rfl)) (hts' _ (List.mem_of_getElem? (i := 7) rfl)) rfl hdL_X11_init ⟨Nat.le_of_ble_eq_true rfl, Nat.le_of_ble_eq_true rfl⟩) rfl hl.1 rfl (Nat.le_of_ble_eq_true rfl) dL_law_4 ⟨(Nat.le_of_ble_eq_true rfl), (Nat.le_of_ble_eq_true rfl)⟩ (fun u H locs hp w => ?_)
  obtain ⟨N, hN1, hN2, hN3, hmk, hob, rfl⟩ := hp
  refine (show W p l e _ s m _ below meth c H locs _ _ _ (F0 m 7 ls [.ref q0]) from ?_)
  refine lv_astore_n (lv' := [(1, .ref q0), (0, .ref b)]) hx hb dL_law_7 rfl hl (by decide) rfl (fun ls hl => ?_)
  refine hg_new X w (C := RX12) (T := TX12) (N := 19) (ci := 10) (ty0 := tyX12) inlX12 tyX12_ok rfl (List.mem_of_getElem? (i := 3) rfl) (List.mem_of_getElem? (i := 4) rfl) (List.mem_of_getElem? (i := 5) rfl) (fs := [.null, .int 0, .null, .null, .null, .null, .null, .int 0, .null, .int 0, .int 0, .int 0, .int 0, .int 0, .int 0, .null, .int 0, .null, .int 0]) (fun j hj => by rcases (show j = 0 ∨ j = 1 ∨ j = 2 ∨ j = 3 ∨ j = 4 ∨ j = 5 ∨ j = 6 ∨ j = 7 ∨ j = 8 ∨ j = 9 ∨ j = 10 ∨ j = 11 ∨ j = 12 ∨ j = 13 ∨ j = 14 ∨ j = 15 ∨ j = 16 ∨ j = 17 ∨ j = 18 by omega) with rfl | rfl | rfl | rfl | rfl | rfl | rfl | rfl | rfl | rfl | rfl | rfl | rfl | rfl | rfl | rfl | rfl | rfl | rfl <;> rfl) (Nat.le_of_ble_eq_true rfl) (Nat.le_of_ble_eq_true rfl) dL_law_8 (fun q1 H hq1 w => ?_)
  refine lv_dup hx hb dL_law_11 rfl ?_
  refine hg_init (As := []) (rest := [.ref q1]) X w (c_X12_initF l D s.heap.size (([] ++ [q0] ++ N) ++ [q1]) _ q1 (List.mem_append_right _ (List.mem_of_getElem? (i := 0) rfl)) (va_up_self _ _ _)) (cwI 0 hts' ggL_law_X12_init rfl rfl rfl (hts' _ (List.mem_of_getElem? (i := 5) rfl)) (hts' _ (List.mem_of_getElem? (i := 67) rfl)) (hts' _ (List.mem_of_getElem? (i := 68) rfl)) rfl hdL_X12_init ⟨Nat.le_of_ble_eq_true rfl, Nat.le_of_ble_eq_true rfl⟩) rfl hl.1 rfl (Nat.le_of_ble_eq_true rfl) dL_law_12 ⟨(Nat.le_of_ble_eq_true rfl), (Nat.le_of_ble_eq_true rfl)⟩ (fun u H locs hp w => ?_)
  obtain ⟨ma, N2, hmN, hN4, hmo, rfl⟩ := hp
  refine (show W p l e _ s m _ below meth c H locs 40 2617 _ (F0 m 15 ls [.ref q1]) from ?_)
  refine lv_astore_n (lv' := [(2, .ref q1), (1, .ref q0), (0, .ref b)]) hx hb dL_law_15 rfl hl (by decide) rfl (fun ls hl => ?_)
  refine lv_iconst (v := 0) hx hb dL_law_16 (by decide) ?_
  refine lv_istore_n (lv' := [(3, .int 0), (2, .ref q1), (1, .ref q0), (0, .ref b)]) hx hb dL_law_17 rfl hl (by decide) rfl (fun ls hl => ?_)
  have hst : lc_I D ([] ++ [q0] ++ N ++ [q1] ++ N2) _ q0 q1 ma := lc_start (oa := fun k => (q0 :: N).getD (ob_sg k) 0) hob hmk hq1 (fun k hk z => hN4 _ (hmN k hk) (List.mem_append_left _ z)) hmo (fun a ha => List.mem_append_left _ (List.mem_append_left _ ha))
  refine lw_loop X hX hbl hbl hL (fun H locs ls hS => ?_) 65 0 (by omega) (by omega) _ _ H locs ls hst w (lv_sub hl [3, 2, 1, 0] rfl)
  refine lv_iconst (v := 1) hx hb dL_law_1330 (by decide) ?_
  refine va_forget (fun q hq => hS.2.2 q hq) ?_
  exact lw_ret hx hb hr hlocks dL_law_1331
set_option maxHeartbeats 4000000 in
theorem lw_walk (l : Launch) (hflags : l.flags = flags0) (b : Addr) (xs : List Int32) : MetFree l x (headSpec (Jvm.Cond.code x code maxLocals ret :: tables_1) room_1) (lw_P b xs) (fun _ _ _ _ _ => True) lw_Q := by
  refine MetFree.of_bodyS (code := code) (maxLocals := maxLocals) (ret := ret) (by decide) ?_ ?_
  · intro args s m h hn
    obtain ⟨meth, c, h1, h2, h3, h4, h5, h6, -, -⟩ := Cond.code_spec hn (atoms_spec (ws := Jvm.Cond.code x code maxLocals ret :: tables_1) h _ List.mem_cons_self)
    exact ⟨meth, c, h1, h2, h3, h4, h5, h6⟩
  · intro p e s m args below meth c s₁ B hml0 hP _
    obtain ⟨rfl, hx, hbd, hgv⟩ := hP
    obtain ⟨scr, harrAt, hlist, hof, hsmall⟩ := hx
    obtain ⟨hcb, hkn, -, -⟩ := State.arrayAt?_spec harrAt
    have hown : s.vm.findClass R_law = some m.cls := findClass_of_methodNamed B.named
    have hts0 : ∀ c ∈ (Jvm.Cond.code x code maxLocals ret :: tables_1), c.before #[Value.ref b] s = true := atoms_spec (ws := Jvm.Cond.code x code maxLocals ret :: tables_1) B.pre
    have hts : ∀ w ∈ lw_tbl, w.before #[Value.ref b] s = true := k2_hts_sels lw_privs (fun w hw => hts0 w (List.mem_cons_of_mem _ hw)) lw_privs_ok
    have hml : c.maxLocals = 4 := B.maxLocals_eq (hts0 _ List.mem_cons_self)
    have X₀ : Stand p l e room_1 s m #[Value.ref b] below meth c s₁ [] 0 0 := Stand.of_body B
    have hh0 : s₁.heap = s.heap := by rw [B.state]; rfl
    have hsz : scr.slots.size = xs.length := by rw [← Array.length_toList, hlist, List.length_map]
    have hval : ∀ j : Nat, j < xs.length → scr.slots[j]? = some (.int (xs.getD j 0)) := fun j hj => by
      rw [← Array.getElem?_toList, hlist]
      simp [hj]
    have hbl : b < s.heap.size := (Array.getElem?_eq_some_iff.mp hcb).1
    have hX : va_X b xs.length (fun j => xs.getD j 0) s s.heap := ⟨scr, hcb, hof, hkn, hsz, hval⟩
    have K : W p l e room_1 s m #[Value.ref b] below meth c s₁.heap [] 0 0 (lw_Z below #[Value.ref b] s) (entryFrame m ([Value.ref b] : List Value).toArray 4) := by
      rw [hh0]
      exact whole_start l hflags hbd ⟨B.exec, B.bytes, B.returns, hml, hown, hts, hX, hbl, B.notSynchronized, hgv⟩
    obtain ⟨t, a1, o, b1, b2, b3⟩ := K s₁ rfl X₀
    exact ⟨t, o, a1, b1, b2, b3⟩
theorem lw_pre_spec {args : Array Value} {s : State} (h : (Jvm.Cond.and given_1 narrow_1).before args s = true) (hr : rest_1_c.before args s = true) : ∃ (b : Addr) (xs : List Int32), lw_P b xs args s := by
  have hs := flat_of_before _ h
  have hq := flat_of_before _ hr
  have hc : (Cond.count 1).before args s = true := hs _ (by decide +kernel)
  have harr : (Cond.arrayOf (.arg 0) .int).before args s = true := hs _ (by decide +kernel)
  have hle : (Cond.le (.length (.arg 0)) (.int 384)).before args s = true := hs _ (by decide +kernel)
  have hlen : (Cond.isInt (.length (.arg 0))).before args s = true := hq _ (by decide +kernel)
  have hall : (Cond.all (.arg 0) (.isInt (.elem (.arg 0) (.index 0)))).before args s = true := hq _ (by decide +kernel)
  obtain ⟨b, xs, hb, hx⟩ := State.ints_of_pre rfl harr hlen hall
  have hsm : xs.length < 2 ^ 31 := hx.choose_spec.2.2.2
  have hev : (Term.length (.arg 0)).eval args s none [] s = some (.int xs.length.toInt32) := hx.length_eval hb
  have hv := Cond.le_ints hev (show (Term.int 384).eval args s none [] s = some (.int 384) from rfl)
  have hd : xs.length.toInt32 ≤ 384 := by
    simpa [Cond.before, Cond.holds, hv] using hle
  have hN : xs.length ≤ 384 := (Int32.ofNat_le_ofNat hsm (by decide)).mp (show Int32.ofNat xs.length ≤ Int32.ofNat 384 from hd)
  exact ⟨b, xs, Cond.one_arg hc (show args[0]? = some (.ref b) from hb), hx, hN, h⟩
theorem lw_comes (l : Launch) (hflags : l.flags = flags0) : Comes l x (Jvm.Cond.code x code maxLocals ret :: tables_1) room_1 (fun tb e args s => Calls_1 tb e args s ∧ rest_1 tb e args s ∧ Pre_1 tb e args s)
    (fun _ _ args s o t => lw_Q args s o t) := by
  intro p e ha hc hk s m args below hf hfit hheap happ hpre
  obtain ⟨b, xs, hP⟩ := lw_pre_spec hpre.2.2 hpre.2.1
  obtain ⟨k, o, h1, h2, h3, hQ⟩ := lw_walk l hflags b xs p e ha hc hk s m args below hf ((Spec.applies_iff_loose hf).mp happ).1 hP trivial
  exact ⟨k, o, h1, h2, h3, hQ⟩
theorem lw_frame {s t : State} {o : Outcome} {args : Array Value} (h : Framed s o t [] 600000 7302250) :
    Framed s o t (fieldLocs frame_1_writes args s ++ arrayLocs frame_1_arrays args s ++ staticLocs frame_1_statics s) 600000 7302250 := h
theorem lw_limb (L : Cond) (hL : ∀ (args : Array Value) (s t : State), L.after args s (.returned (some (.int 1))) t = true) :
    ArmFor flags0 classFile x code maxLocals ret World_1 tables_1 room_1 Calls_1 rest_1 Pre_1
      (fun tb e a s o t => postC L tb e a s o t ∧ Framed s o t (fieldLocs frame_1_writes a s ++ arrayLocs frame_1_arrays a s ++ staticLocs frame_1_statics s) 600000 7302250) := by
  intro l hflags _ _ p e ha hc hk s m args below hf hfit hheap happ hpre
  obtain ⟨k, o, h1, h2, h3, rfl, hF⟩ := lw_comes l hflags p e ha hc hk s m args below hf hfit hheap happ hpre
  exact ⟨k, _, h1, h2, h3, hL args s _, lw_frame hF⟩
theorem i_vc : Claimed_1_1 ∧ Claimed_1_2 := ⟨lw_limb limb_1_1 (fun args s t => by simp [limb_1_1, Cond.after, Cond.holds, Cond.value]), lw_limb limb_1_2 (fun args s t => Cond.after_iff.mpr (by
  first | (rw [show limb_1_2 = Cond.eq .result (.int 1) from rfl, Cond.eq_ints (x := 1) (y := 1) rfl rfl]; simp; done) | (simp [limb_1_2, Cond.value, Term.eval]; done)))⟩

