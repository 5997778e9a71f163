section HG
variable {p : Program} {l : Launch} {e : Env} {R : Room} {s : State} {m : MethodId} {args : Array Value} {below : List Frame} {meth : Method} {c : Code} {H : Heap} {locs : List Loc} {cells slots : Nat} {Q : State → Prop}
variable {cc : ByteArray} {nL : Nat} {Ts : List Cond} {own : String} {D : va_G} {b0 : Nat} {L : List Nat} {f : Nat → va_E} {pc : Nat} {ls : Array Slot} {rest st : List Value} {a : Nat}
variable {x y : MethodName} {ws : List Cond} {rm : Room} {bytes : ByteArray} {maxL nn index mc ms : Nat} {ret : Option FieldType} {As : List Value} {owner : String} {C : String} {ci : Nat} {q : vw_C} {fs : List Value}
/-- a call on a stall of a known kind -/
theorem hg_uiF {r : Int32} {f' : Nat → va_E} (X : hg_C p s m args c cc nL Ts own D b0) (w : hg_W D b0 L f s.heap H locs) (hM : hg_Fi l y ws rm D b0 L f (.ref a :: As) r f') (cw : va_CU R s args own C owner index x y bytes maxL ret ws rm 0 0 nn)
    (ha : a ∈ L) (hf : f a = .inr (ci, fs)) (hc : vwCl[ci]? = some q) (hq : q.1 = C) (hn : As.length = nn) (hls : ls.size = nL) (hst : st = As.reverse ++ .ref a :: rest) (hW : (rest.map fun v => v.category).sum ≤ 8) (hdg : decode cc pc = .ok (.invokevirtual index, 3)) (hcap : cells ≤ R.cells ∧ slots ≤ R.slots)
    (kk : ∀ (H1 : Heap) (locs1 : List Loc), hg_W D b0 L f' s.heap H1 locs1 → W p l e R s m args below meth c H1 locs1 cells slots Q (F0 m (pc + 3) ls (.int r :: rest))) : W p l e R s m args below meth c H locs cells slots Q (F0 m pc ls st) :=
  hg_back w (mk_runU X w hM cw ha hf hc hq hn hls hst hW hdg hcap) (fun r1 u H1 locs1 hp hw => by obtain ⟨rfl, rfl⟩ := hp; exact kk H1 locs1 hw)
/-- a call on what is above -/
theorem hg_xiF {r : Int32} {f' : Nat → va_E} (X : hg_C p s m args c cc nL Ts own D b0) (w : hg_W D b0 L f s.heap H locs) (hM : hg_Fi l y ws rm D b0 L f (.ref a :: As) r f') (cw : va_CS R s args own index y bytes maxL ret ws rm 0 0 nn)
    (ha : a ∈ L) (hf : f a = .inr (ci, fs)) (hc : vwCl[ci]? = some q) (hn : As.length = nn) (hls : ls.size = nL) (hst : st = As.reverse ++ .ref a :: rest) (hW : (rest.map fun v => v.category).sum ≤ 8) (hdg : decode cc pc = .ok (.invokespecial index, 3)) (hcap : cells ≤ R.cells ∧ slots ≤ R.slots)
    (kk : ∀ (H1 : Heap) (locs1 : List Loc), hg_W D b0 L f' s.heap H1 locs1 → W p l e R s m args below meth c H1 locs1 cells slots Q (F0 m (pc + 3) ls (.int r :: rest))) : W p l e R s m args below meth c H locs cells slots Q (F0 m pc ls st) :=
  hg_back w (va_runSU (X.2.1.1.1 ci q hc).2 X.1 hM cw ⟨hg_blind _ _ _ _ _, hg_recv X w ha hf hc rfl, hg_pre X.2.2 X.2.1 w⟩ rfl hn hls hst (lv_room hW) hdg hcap) (fun r1 u H1 locs1 hp hw => by obtain ⟨rfl, rfl⟩ := hp; exact kk H1 locs1 hw)
end HG
/-- what a table's mark is, and what it leaves -/
def ms_mr (g : Nat → Int32) (i : Nat) : Int32 := if g (8 + i) = 2 then 2 * (nI i + hs_weight g i) else if g (8 + i) = 3 then nI i + hs_weight g i - 1000 else nI i + hs_weight g i
def ms_mc (C : Nat → Nat → Int32) (k : Int32) : Nat → Nat → Int32 := sp_leave (sp_leave (if k = 2 then sp_leave C 24 else if k = 3 then sp_leave C 22 else C) 21) 20
def ms_ns (g : Nat → Int32) (i : Nat) : Int32 := if g (8 + i) = 5 then 2 * (g (26 + i) - 100) else g (26 + i) - 100
def ms_nc (C : Nat → Nat → Int32) (k : Int32) : Nat → Nat → Int32 := sp_leave (sp_leave (if k = 5 then sp_leave C 14 else C) 13) 10
