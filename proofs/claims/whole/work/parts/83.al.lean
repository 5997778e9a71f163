/-! WHAT IS MADE -/
section HG
variable {p : Program} {l : Launch} {e : Env} {R : Room} {s : State} {m : MethodId} {args : Array Value} {below : List Frame} {meth : Method} {c : Code} {H : Heap} {locs : List Loc} {cells slots : Nat} {Q : State → Prop}
variable {cc : ByteArray} {nL : Nat} {Ts : List Cond} {own : String} {D : va_G} {b0 : Nat} {L : List Nat} {f : Nat → va_E} {pc : Nat} {ls : Array Slot} {rest st : List Value} {a : Nat}
theorem hg_fresh {A : Nat → Prop} {q : Nat} {x : va_E} (hD : va_D A (va_pl L f ++ [(q, x)])) : q ∉ L := va_pl_fresh2 (X := []) hD
/-- a new object -/
theorem hg_new (X : hg_C p s m args c cc nL Ts own D b0) (w : hg_W D b0 L f s.heap H locs) {C : String} {T : u_T} {N ci index : Nat} (hin : ∀ w ∈ u_ws C T N, w ∈ Ts) {ty0 : Nat → FieldType} (hty : ∀ k, k < N → parseFieldDescriptor (T k).2.2.1 = some (ty0 k)) (hc : vwCl[ci]? = some (C, T, N)) (hcl : Cond.classLink own index C ∈ Ts) (hinst : Cond.instantiable C N ∈ Ts) (hini : Cond.initialized C ∈ Ts) {fs : List Value} (hfs : ∀ j, j < N → defaultValue (ty0 j) = vp_V fs j) (hcells : cells + 1 ≤ R.cells) (hslots : slots + N ≤ R.slots) (hdg : decode cc pc = .ok (.new index, 3))
    (kk : ∀ (q : Nat) (H1 : Heap), q ∉ L → hg_W D b0 (L ++ [q]) (va_up f q (.inr (ci, fs))) s.heap H1 locs → W p l e R s m args below meth c H1 locs (cells + 1) (slots + N) Q (F0 m (pc + 3) ls (.ref q :: rest))) : W p l e R s m args below meth c H locs cells slots Q (F0 m pc ls rest) := by
  obtain ⟨⟨hx, hb, hml, hown, hts⟩, hK, hb0⟩ := X
  refine va_new hx hb hts hin ty0 hty hown (hts _ hcl) (hts _ hinst) (hts _ hini) hK.1 w.1.1 w.1.2 w.2 (fun q h => Nat.le_trans hb0 h) hc hfs hcells hslots hdg (fun q H1 h1 h2 h3 => ?_)
  have hq := hg_fresh h2
  rw [va_pl_push hq] at h1 h2
  exact kk q H1 hq ⟨⟨h1, h2⟩, h3⟩
theorem hg_newI (X : hg_C p s m args c cc nL Ts own D b0) (w : hg_W D b0 L f s.heap H locs) {k : Int32} (N : Nat) (e1 : k = nI N) (hN : N < 1000) (harr : Cond.arrayClass .int ∈ Ts) (hcells : cells + 1 ≤ R.cells) (hslots : slots + N ≤ R.slots) (hdg : decode cc pc = .ok (.newarray .int, 2))
    (kk : ∀ (q : Nat) (H1 : Heap), q ∉ L → hg_W D b0 (L ++ [q]) (va_up f q (.inl (D.1 11, N, .inl (fun _ => 0)))) s.heap H1 locs → W p l e R s m args below meth c H1 locs (cells + 1) (slots + N) Q (F0 m (pc + 2) ls (.ref q :: rest))) : W p l e R s m args below meth c H locs cells slots Q (F0 m pc ls (.int k :: rest)) := by
  obtain ⟨⟨hx, hb, hml, hown, hts⟩, hK, hb0⟩ := X
  subst e1
  refine va_newa (atype := .int) (ty := .int) (a0 := (N, .inl (fun _ => 0))) hx hb (hts _ harr) rfl hK.1 w.1.1 w.1.2 w.2 (fun q h => Nat.le_trans hb0 h) (fun cA => rfl) (nI_pos (by omega)) (nI_clamp (by omega)) (by show N * 4 ≤ 536870912; omega) hcells hslots hdg (fun q cA H1 h0 h1 h2 h3 => ?_)
  have e2 : cA = D.1 11 := Option.some.inj ((h0.2 5 (cA, .int) rfl).2.symm.trans (hK.1.2 0 (D.1 11, .int) rfl).2)
  subst e2
  have hq := hg_fresh h2
  rw [va_pl_push hq] at h1 h2
  exact kk q H1 hq ⟨⟨h1, h2⟩, h3⟩
theorem hg_newR (X : hg_C p s m args c cc nL Ts own D b0) (w : hg_W D b0 L f s.heap H locs) {C : String} {index : Nat} (t : Nat) (cid : ClassId) (ht : (hg_T D)[t]? = some (cid, .object C)) (hC : C ∈ (["HungStalls$Market", "HungStalls$Row", "HungStalls$Stall"] : List String)) {k : Int32} (N : Nat) (e1 : k = nI N) (hN : N < 1000) (hcl : Cond.classLink own index C ∈ Ts) (hcells : cells + 1 ≤ R.cells) (hslots : slots + N ≤ R.slots) (hdg : decode cc pc = .ok (.anewarray index, 3))
    (kk : ∀ (q : Nat) (H1 : Heap), q ∉ L → hg_W D b0 (L ++ [q]) (va_up f q (.inl (cid, N, .inr (.inr (.inr (.inr (fun _ => none))))))) s.heap H1 locs → W p l e R s m args below meth c H1 locs (cells + 1) (slots + N) Q (F0 m (pc + 3) ls (.ref q :: rest))) : W p l e R s m args below meth c H locs cells slots Q (F0 m pc ls (.int k :: rest)) := by
  obtain ⟨⟨hx, hb, hml, hown, hts⟩, hK, hb0⟩ := X
  subst e1
  refine va_newq hx hb hown (hts _ hcl) (hK.2.2.2.2.2 C hC) hK.1 w.1.1 w.1.2 w.2 (fun q h => Nat.le_trans hb0 h) (nI_pos (by omega)) (nI_clamp (by omega)) (by omega) hcells hslots hdg (fun q cA H1 h0 h1 h2 h3 => ?_)
  obtain ⟨kA, comp, -, -, -, g4⟩ := (h0.2 5 (cA, .object C) rfl).2
  obtain ⟨kA', comp', -, -, -, g4'⟩ := (hK.1.2 t (cid, .object C) ht).2
  have e2 : cA = cid := Option.some.inj (g4.symm.trans g4')
  subst e2
  have hq := hg_fresh h2
  rw [va_pl_push hq] at h1 h2
  exact kk q H1 hq ⟨⟨h1, h2⟩, h3⟩
/-- an object set into an array of references -/
theorem hg_aast (X : hg_C p s m args c cc nL Ts own D b0) (w : hg_W D b0 L f s.heap H locs) (t : Nat) {cid : ClassId} {E : String} {N v ci : Nat} {vs : List Value} {r : vw_C} {g : Nat → Option Nat} (ht : (hg_T D)[t]? = some (cid, .object E)) (ha : a ∈ L) (hf : f a = .inl (cid, N, .inr (.inr (.inr (.inr g))))) (hv : v ∈ L) (hfv : f v = .inr (ci, vs)) (hc : vwCl[ci]? = some r) (hca : va_Nw (.castable r.1 E) s ∨ r.1 = E) {i : Int32} (j : Nat) (hi : i = nI j) (hj : j < N) (hN : N < 2 ^ 31) (hdg : decode cc pc = .ok (.aastore, 1))
    (kk : ∀ (H1 : Heap) (locs1 : List Loc), hg_W D b0 L (va_up f a (.inl (cid, N, .inr (.inr (.inr (.inr (va_up g j (some v)))))))) s.heap H1 locs1 → W p l e R s m args below meth c H1 locs1 cells slots Q (F0 m (pc + 1) ls rest)) : W p l e R s m args below meth c H locs cells slots Q (F0 m pc ls (.ref v :: .int i :: .ref a :: rest)) := by
  obtain ⟨⟨hx, hb, hml, hown, hts⟩, hK, hb0⟩ := X
  obtain ⟨q0, hq⟩ := hg_at ha hf
  obtain ⟨q1, hq1⟩ := hg_at hv hfv
  subst hi
  rcases hca with hca | hca
  · refine va_astqO hx hb hK.1 w.1.1 w.1.2 w.2 q0 t q1 ci hq ht hca hq1 hc (vp_in_nI hj hN) hdg (fun H1 locs1 h1 h2 h3 => ?_)
    rw [nI_clamp (Nat.lt_trans hj hN), hg_up w.1.2 ha hq] at h1 h2
    exact kk H1 locs1 ⟨⟨h1, h2⟩, h3⟩
  · subst hca
    refine va_astq hx hb hK.1 w.1.1 w.1.2 w.2 q0 t q1 ci hq ht hq1 hc (vp_in_nI hj hN) hdg (fun H1 locs1 h1 h2 h3 => ?_)
    rw [nI_clamp (Nat.lt_trans hj hN), hg_up w.1.2 ha hq] at h1 h2
    exact kk H1 locs1 ⟨⟨h1, h2⟩, h3⟩
variable {y : MethodName} {ws : List Cond} {rm : Room} {bytes : ByteArray} {maxL n index mc ms : Nat} {As : List Value} {host : String}
/-- a constructor called: its own class's, a nest mate's -/
theorem hg_init {post : hg_S → Prop} (X : hg_C p s m args c cc nL Ts own D b0) (w : hg_W D b0 L f s.heap H locs) (hM : hg_Mv l y ws rm D b0 L f (.ref a :: As) post mc ms) (cw : CallB R s args own index y bytes maxL none ws rm mc ms n ∧ y.name = "<init>" ∧ (Cond.instanceMethod y).before args s = true)
    (hn : As.length = n) (hls : ls.size = nL) (hst : st = As.reverse ++ .ref a :: rest) (hW : (rest.map fun v => v.category).sum ≤ 8) (hdg : decode cc pc = .ok (.invokespecial index, 3)) (hcap : cells + mc ≤ R.cells ∧ slots + ms ≤ R.slots)
    (kk : ∀ (u : hg_S) (H1 : Heap) (locs1 : List Loc), post u → hg_W D b0 u.1 u.2 s.heap H1 locs1 → W p l e R s m args below meth c H1 locs1 (cells + mc) (slots + ms) Q (F0 m (pc + 3) ls rest)) : W p l e R s m args below meth c H locs cells slots Q (F0 m pc ls st) :=
  hg_backv w (va_runI X.1 hM cw ⟨hg_blind _ _ _ _ _, hg_pre X.2.2 X.2.1 w⟩ rfl hn hls hst (lv_room hW) hdg hcap) kk
theorem hg_initN {post : hg_S → Prop} (X : hg_C p s m args c cc nL Ts own D b0) (w : hg_W D b0 L f s.heap H locs) (hM : hg_Mv l y ws rm D b0 L f (.ref a :: As) post mc ms) (cw : va_CN R s args own index y host bytes maxL none ws rm mc ms n ∧ y.name = "<init>" ∧ (Cond.instanceMethod y).before args s = true)
    (hn : As.length = n) (hls : ls.size = nL) (hst : st = As.reverse ++ .ref a :: rest) (hW : (rest.map fun v => v.category).sum ≤ 8) (hdg : decode cc pc = .ok (.invokespecial index, 3)) (hcap : cells + mc ≤ R.cells ∧ slots + ms ≤ R.slots)
    (kk : ∀ (u : hg_S) (H1 : Heap) (locs1 : List Loc), post u → hg_W D b0 u.1 u.2 s.heap H1 locs1 → W p l e R s m args below meth c H1 locs1 (cells + mc) (slots + ms) Q (F0 m (pc + 3) ls rest)) : W p l e R s m args below meth c H locs cells slots Q (F0 m pc ls st) :=
  hg_backv w (va_runIN X.1 hM cw ⟨hg_blind _ _ _ _ _, hg_pre X.2.2 X.2.1 w⟩ rfl hn hls hst (lv_room hW) hdg hcap) kk
end HG
