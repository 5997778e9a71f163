/-! THE START: who the classes are; the first world -/
theorem st_I {s : State} {args : Array Value} (h : (Cond.arrayClass .int).before args s = true) : ∃ cA, ArrOfT s cA .int ∧ va_RA s cA .int := by
  obtain ⟨cA, kA, comp, h1, h2, h3⟩ := Cond.arrayClass_spec h
  exact ⟨cA, fun n z => ⟨fun k h => (by cases h), kA, h2, comp, h3⟩, h1⟩
theorem st_Z {s : State} {args : Array Value} (h : (Cond.arrayClass .boolean).before args s = true) : ∃ cA, ArrOfT s cA .boolean ∧ va_RA s cA .boolean := by
  obtain ⟨cA, kA, comp, h1, h2, h3⟩ := Cond.arrayClass_spec h
  exact ⟨cA, fun n z => ⟨fun k h => (by cases h), kA, h2, comp, h3⟩, h1⟩
theorem st_O {s : State} {args : Array Value} {C : String} (h : (Cond.arrayOver (.object C)).before args s = true) : ∃ cA, ArrOfT s cA (.object C) ∧ va_RA s cA (.object C) := by
  obtain ⟨comp, cA, kA, h1, h2, h3, h4, h5⟩ := Cond.arrayOver_spec h
  exact ⟨cA, fun N z => ⟨(fun k h => by cases h), kA, h3, comp, h4⟩, kA, comp, h3, h4, h1, h5⟩
theorem st_N1 : ∀ q ∈ ([("HungStalls", 17, yX8_init), ("HungStalls", 24, yX9_init), ("HungStalls", 65, yX5_init), ("HungStalls$Butcher", 3, yX7_init), ("HungStalls$Jeweller", 3, yX7_init), ("HungStalls$Notary", 3, yX6_init), ("HungStalls$Stall", 36, yX2_init), ("HungStalls$Stall", 39, yX0_init), ("HungStalls$Stall", 42, yX4_init), ("HungStalls$Stall", 45, yX10_init), ("HungStalls$Stall", 48, yX7_init), ("HungStalls$Table", 3, yX6_init), ("HungStalls$Vulture", 3, yX4_init)] : List (String × Nat × MethodName)), Cond.methodLinkNest q.1 q.2.1 q.2.2 "HungStalls" ∈ lw_tbl := by decide +kernel
theorem st_N2 : ∀ q ∈ ([("HungStalls$Butcher", "HungStalls$Stall"), ("HungStalls$Jeweller", "HungStalls$Stall"), ("HungStalls$Notary", "HungStalls$Stall"), ("HungStalls$Table", "HungStalls$Stall"), ("HungStalls$Vulture", "HungStalls$Stall"), ("[I", "java/lang/Cloneable"), ("HungStalls$Table", "HungStalls$Table"), ("HungStalls$Jeweller", "HungStalls$Table"), ("HungStalls$Butcher", "HungStalls$Table"), ("HungStalls$Vulture", "HungStalls$Notary")] : List (String × String)), (q.1 = "HungStalls$Table" ∧ q.2 = "HungStalls$Table") ∨ Cond.castable q.1 q.2 ∈ lw_tbl := by decide +kernel
theorem st_N3 : ∀ q ∈ ([("HungStalls$Notary", "HungStalls$Table"), ("HungStalls$Vulture", "HungStalls$Table"), ("HungStalls$Butcher", "HungStalls$Jeweller"), ("HungStalls$Notary", "HungStalls$Jeweller"), ("HungStalls$Vulture", "HungStalls$Jeweller"), ("HungStalls$Table", "HungStalls$Jeweller"), ("HungStalls$Jeweller", "HungStalls$Butcher"), ("HungStalls$Notary", "HungStalls$Butcher"), ("HungStalls$Vulture", "HungStalls$Butcher"), ("HungStalls$Table", "HungStalls$Butcher"), ("HungStalls$Jeweller", "HungStalls$Notary"), ("HungStalls$Butcher", "HungStalls$Notary"), ("HungStalls$Table", "HungStalls$Notary"), ("HungStalls$Jeweller", "HungStalls$Vulture"), ("HungStalls$Butcher", "HungStalls$Vulture"), ("HungStalls$Notary", "HungStalls$Vulture"), ("HungStalls$Table", "HungStalls$Vulture")] : List (String × String)), Cond.not (.castable q.1 q.2) ∈ flatC (Jvm.Cond.and given_1 narrow_1) := by decide +kernel
theorem st_TT {s : State} {args : Array Value} (h : (Cond.instantiable "HungStalls$Table" 7).before args s = true) : va_Nw (.castable "HungStalls$Table" "HungStalls$Table") s := by
  obtain ⟨cC, kC, hfc, -⟩ := Cond.instantiable_spec h
  unfold va_Nw
  simp only [Cond.before, Cond.holds, Cond.value, hfc]
  have e : s.vm.assignable cC cC = true := by
    show s.vm.assignableAux (255 + 1) cC cC = true
    rw [Vm.assignableAux]
    simp only [beq_self_eq_true, Bool.true_or]
  rw [e]
  rfl
theorem st_N4 : Cond.declares ⟨"HungStalls$Stall", "kindTold", "()I"⟩ ∈ lw_tbl := by decide +kernel
theorem st_N5 : ∀ C ∈ (["HungStalls$Market", "HungStalls$Row", "HungStalls$Stall"] : List String), Cond.arrayOver (.object C) ∈ lw_tbl := by decide +kernel
theorem st_N {s : State} {args : Array Value} (hts : ∀ w ∈ lw_tbl, w.before args s = true) (hgv : (Jvm.Cond.and given_1 narrow_1).before args s = true) (hT : (Cond.instantiable "HungStalls$Table" 7).before args s = true) : hg_N s := by
  refine ⟨fun q hq => va_Nw.of rfl (hts _ (st_N1 q hq)), fun q hq => ?_, fun q hq => va_Nc.of (flat_of_before _ hgv _ (st_N3 q hq)), va_Nw.of rfl (hts _ st_N4), fun C hC => va_AO.of (hts _ (st_N5 C hC))⟩
  rcases st_N2 q hq with ⟨e1, e2⟩ | z
  · rw [e1, e2]; exact st_TT hT
  · exact va_Nw.of rfl (hts _ z)
theorem st_i0 : Cond.instantiable RX0 7 ∈ lw_tbl := by decide +kernel
theorem st_i1 : Cond.instantiable RX2 7 ∈ lw_tbl := by decide +kernel
theorem st_i2 : Cond.instantiable RX3 6 ∈ lw_tbl := by decide +kernel
theorem st_i3 : Cond.instantiable RX4 7 ∈ lw_tbl := by decide +kernel
theorem st_i4 : Cond.instantiable RX5 3 ∈ lw_tbl := by decide +kernel
theorem st_i5 : Cond.instantiable RX7 7 ∈ lw_tbl := by decide +kernel
theorem st_i6 : Cond.instantiable RX8 5 ∈ lw_tbl := by decide +kernel
theorem st_i7 : Cond.instantiable RX9 2 ∈ lw_tbl := by decide +kernel
theorem st_i8 : Cond.instantiable RX10 7 ∈ lw_tbl := by decide +kernel
theorem st_i9 : Cond.instantiable RX11 12 ∈ lw_tbl := by decide +kernel
theorem st_i10 : Cond.instantiable RX12 19 ∈ lw_tbl := by decide +kernel
theorem st_aI : Cond.arrayClass .int ∈ lw_tbl := by decide +kernel
theorem st_aZ : Cond.arrayClass .boolean ∈ lw_tbl := by decide +kernel
theorem st_K {s : State} {args : Array Value} (hts : ∀ w ∈ lw_tbl, w.before args s = true) (hgv : (Jvm.Cond.and given_1 narrow_1).before args s = true) : ∃ D : va_G, hg_K D s := by
  obtain ⟨c0, i0, h0⟩ := u_known (C := RX0) (T := TX0) (N := 7) (n := 7) hts wsX00_in (hts _ st_i0)
  obtain ⟨c1, i1, h1⟩ := u_known (C := RX2) (T := TX2) (N := 7) (n := 7) hts wsX20_in (hts _ st_i1)
  obtain ⟨c2, i2, h2⟩ := u_known (C := RX3) (T := TX3) (N := 6) (n := 6) hts wsX30_in (hts _ st_i2)
  obtain ⟨c3, i3, h3⟩ := u_known (C := RX4) (T := TX4) (N := 7) (n := 7) hts wsX40_in (hts _ st_i3)
  obtain ⟨c4, i4, h4⟩ := u_known (C := RX5) (T := TX5) (N := 3) (n := 3) hts wsX50_in (hts _ st_i4)
  obtain ⟨c5, i5, h5⟩ := u_known (C := RX7) (T := TX7) (N := 7) (n := 7) hts wsX70_in (hts _ st_i5)
  obtain ⟨c6, i6, h6⟩ := u_known (C := RX8) (T := TX8) (N := 5) (n := 5) hts wsX80_in (hts _ st_i6)
  obtain ⟨c7, i7, h7⟩ := u_known (C := RX9) (T := TX9) (N := 2) (n := 2) hts wsX90_in (hts _ st_i7)
  obtain ⟨c8, i8, h8⟩ := u_known (C := RX10) (T := TX10) (N := 7) (n := 7) hts wsX100_in (hts _ st_i8)
  obtain ⟨c9, i9, h9⟩ := u_known (C := RX11) (T := TX11) (N := 12) (n := 12) hts wsX110_in (hts _ st_i9)
  obtain ⟨c10, i10, h10⟩ := u_known (C := RX12) (T := TX12) (N := 19) (n := 19) hts wsX120_in (hts _ st_i10)
  obtain ⟨a0, r0⟩ := st_I (hts _ st_aI)
  obtain ⟨a1, r1⟩ := st_Z (hts _ st_aZ)
  obtain ⟨a2, r2⟩ := st_O (hts _ (st_N5 "HungStalls$Market" (List.mem_of_getElem? (i := 0) rfl)))
  obtain ⟨a3, r3⟩ := st_O (hts _ (st_N5 "HungStalls$Row" (List.mem_of_getElem? (i := 1) rfl)))
  obtain ⟨a4, r4⟩ := st_O (hts _ (st_N5 "HungStalls$Stall" (List.mem_of_getElem? (i := 2) rfl)))
  refine ⟨(fun k => match k with | 0 => c0 | 1 => c1 | 2 => c2 | 3 => c3 | 4 => c4 | 5 => c5 | 6 => c6 | 7 => c7 | 8 => c8 | 9 => c9 | 10 => c10 | 11 => a0 | 12 => a1 | 13 => a2 | 14 => a3 | _ => a4, fun k => match k with | 0 => i0 | 1 => i1 | 2 => i2 | 3 => i3 | 4 => i4 | 5 => i5 | 6 => i6 | 7 => i7 | 8 => i8 | 9 => i9 | _ => i10), ⟨fun k q hq => ?_, fun k q hq => ?_⟩, st_N hts hgv (hts _ st_i5)⟩
  · match k, hq with
    | 0, hq => cases hq; exact h0
    | 1, hq => cases hq; exact h1
    | 2, hq => cases hq; exact h2
    | 3, hq => cases hq; exact h3
    | 4, hq => cases hq; exact h4
    | 5, hq => cases hq; exact h5
    | 6, hq => cases hq; exact h6
    | 7, hq => cases hq; exact h7
    | 8, hq => cases hq; exact h8
    | 9, hq => cases hq; exact h9
    | 10, hq => cases hq; exact h10
    | k + 11, hq => exact absurd hq (by simp)
  · match k, hq with
    | 0, hq => cases hq; exact r0
    | 1, hq => cases hq; exact r1
    | 2, hq => cases hq; exact r2
    | 3, hq => cases hq; exact r3
    | 4, hq => cases hq; exact r4
    | k + 5, hq => exact absurd hq (by simp)
theorem lc_I0 : ag_I ob_C0 mo_M0 0 0 0 := by
  have e : ∀ j, j < 50 → mk_g0 0 0 j = mo_M0 0 j := by
    intro j _
    unfold mk_g0
    split
    · rfl
    split
    · rfl
    · rfl
  refine ⟨fun k _ => rfl, ⟨fun r _ => ⟨0, by omega, rfl⟩, fun r hr => Or.inl ?_⟩, ⟨0, by omega, rfl⟩, ⟨0, by omega, rfl⟩, ⟨rfl, by omega⟩, ⟨0, rfl⟩, ag_V_c e (cr_V_V (cr_V_0 ⟨by decide, by decide⟩)), Or.inl ⟨rfl, rfl, rfl, rfl⟩, fun i hi => absurd hi (by omega)⟩
  show (if r < 8 then (-1 : Int32) else 0) = -1
  rw [if_pos hr]
theorem lc_start {D : va_G} {L1 L2 : List Nat} {f : Nat → va_E} {oa : Nat → Nat} {mk : Nat} {ad : Nat → Nat} {q1 : Nat} {ma : Nat → Nat} {x : va_E} (ho : ob_ok L1 oa mk ad 0) (hm : mk_ok L1 mk ad 0) (hq : q1 ∉ L1) (hma : ∀ k ∈ mo_ks, ma k ∉ L1) (hmo : mo_ok L2 q1 ma) (hL : ∀ a ∈ L1, a ∈ L2) : lc_I D L2 (mo_F D (va_up (ob_W D f oa ob_C0 mk (fun _ => none) mk ad 0 (mk_g0 0 0)) q1 x) q1 ma mo_M0) (oa 0) q1 ma := by
  have out : ∀ a ∈ L1, mo_F D (va_up (ob_W D f oa ob_C0 mk (fun _ => none) mk ad 0 (mk_g0 0 0)) q1 x) q1 ma mo_M0 a = ob_W D f oa ob_C0 mk (fun _ => none) mk ad 0 (mk_g0 0 0) a := by
    intro a ha
    rw [mo_out (fun e => hq (by rw [← e]; exact ha)) (fun k hk e => hma k hk (by rw [e]; exact ha)), va_up_ne _ _ (fun e => hq (by rw [← e]; exact ha))]
  have e : ∀ j, j < 50 → mk_g0 0 0 j = mo_M0 0 j := by
    intro j _
    unfold mk_g0
    split
    · rfl
    split
    · rfl
    · rfl
  refine ⟨oa, ob_C0, mo_M0, mk, ad, 0, 0, fun _ => none, fun a => if a ∈ L1 then wl_re (fun _ => 0) mk ad 0 2 a else 1, rfl, fun k hk => ?_, ?_, mo_H_F hmo, ob_ok_L ho hL, mk_ok_L hm hL, hmo, fun k hk => ?_, ⟨?_, fun j hj => ?_⟩, ⟨?_, fun k hk => ?_⟩, fun k hk => Or.inl ⟨rfl, rfl⟩, 0, lc_I0⟩
  · rw [out _ (ho.1 k hk).1]
    unfold ob_W
    rw [mk_out (ho.1 k hk).2.1 (ho.1 k hk).2.2, ob_at ho.2 hk]
  · exact mk_H_c (by omega) e (mk_H_fr (F := ob_W D f oa ob_C0 mk (fun _ => none) mk ad 0 (mk_g0 0 0)) (mk_H_F hm) (out _ hm.1) (fun j hj => out _ (hm.2.1 j hj).1))
  · show (if oa k ∈ L1 then _ else _) = 0
    rw [if_pos (ho.1 k hk).1, wl_re_o _ (ho.1 k hk).2.1 (ho.1 k hk).2.2 (by decide)]
  · show (if mk ∈ L1 then _ else _) = 2
    rw [if_pos hm.1, wl_re_m]
  · show (if ad j ∈ L1 then _ else _) = 2
    rw [if_pos (hm.2.1 j hj).1, wl_re_a _ _ _ _ _ hj]
  · show (if q1 ∈ L1 then _ else _) = 1
    rw [if_neg hq]
  · show (if ma k ∈ L1 then _ else _) = 1
    rw [if_neg (hma k hk)]
