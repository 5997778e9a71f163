/-! MY OWN LAYER: a world is a list L of addresses and what each holds, f; every method keeps all of it but what its contract says; what may change lies from b0 on -/
abbrev hg_A (b0 : Nat) : Nat → Prop := fun q => b0 ≤ q
abbrev hg_T (D : va_G) : List (ClassId × FieldType) := [(D.1 11, .int), (D.1 12, .boolean), (D.1 13, .object "HungStalls$Market"), (D.1 14, .object "HungStalls$Row"), (D.1 15, .object "HungStalls$Stall")]
/-- what the tables say that is no good word: nest mates, casts, declared methods -/
def hg_N (U : State) : Prop :=
  (∀ q ∈ ([("HungStalls", 17, yX8_init), ("HungStalls", 24, yX9_init), ("HungStalls", 65, yX5_init), ("HungStalls$Butcher", 3, yX7_init), ("HungStalls$Jeweller", 3, yX7_init), ("HungStalls$Notary", 3, yX6_init), ("HungStalls$Stall", 36, yX2_init), ("HungStalls$Stall", 39, yX0_init), ("HungStalls$Stall", 42, yX4_init), ("HungStalls$Stall", 45, yX10_init), ("HungStalls$Stall", 48, yX7_init), ("HungStalls$Table", 3, yX6_init), ("HungStalls$Vulture", 3, yX4_init)] : List (String × Nat × MethodName)), va_Nw (.methodLinkNest q.1 q.2.1 q.2.2 "HungStalls") U) ∧
  (∀ q ∈ ([("HungStalls$Butcher", "HungStalls$Stall"), ("HungStalls$Jeweller", "HungStalls$Stall"), ("HungStalls$Notary", "HungStalls$Stall"), ("HungStalls$Table", "HungStalls$Stall"), ("HungStalls$Vulture", "HungStalls$Stall"), ("[I", "java/lang/Cloneable"), ("HungStalls$Table", "HungStalls$Table"), ("HungStalls$Jeweller", "HungStalls$Table"), ("HungStalls$Butcher", "HungStalls$Table"), ("HungStalls$Vulture", "HungStalls$Notary")] : List (String × String)), va_Nw (.castable q.1 q.2) U) ∧
  (∀ q ∈ ([("HungStalls$Notary", "HungStalls$Table"), ("HungStalls$Vulture", "HungStalls$Table"), ("HungStalls$Butcher", "HungStalls$Jeweller"), ("HungStalls$Notary", "HungStalls$Jeweller"), ("HungStalls$Vulture", "HungStalls$Jeweller"), ("HungStalls$Table", "HungStalls$Jeweller"), ("HungStalls$Jeweller", "HungStalls$Butcher"), ("HungStalls$Notary", "HungStalls$Butcher"), ("HungStalls$Vulture", "HungStalls$Butcher"), ("HungStalls$Table", "HungStalls$Butcher"), ("HungStalls$Jeweller", "HungStalls$Notary"), ("HungStalls$Butcher", "HungStalls$Notary"), ("HungStalls$Table", "HungStalls$Notary"), ("HungStalls$Jeweller", "HungStalls$Vulture"), ("HungStalls$Butcher", "HungStalls$Vulture"), ("HungStalls$Notary", "HungStalls$Vulture"), ("HungStalls$Table", "HungStalls$Vulture")] : List (String × String)), va_Nc q.1 q.2 U) ∧
  va_Nw (.declares ⟨"HungStalls$Stall", "kindTold", "()I"⟩) U ∧
  (∀ C ∈ (["HungStalls$Market", "HungStalls$Row", "HungStalls$Stall"] : List String), va_AO C U)
theorem hg_N_moved {u U : State} (hW : u.WarmedH U.vm) (h : hg_N u) : hg_N U :=
  ⟨fun q hq => va_Nw.warmM hW (h.1 q hq), fun q hq => va_Nw.warmC hW (h.2.1 q hq), fun q hq => (h.2.2.1 q hq).moved hW.alike, va_Nw.warmD hW h.2.2.2.1, fun C hC => va_AO.moved hW.alike (h.2.2.2.2 C hC)⟩
theorem hg_N_same {u U : State} (hv : u.vm = U.vm) (h : hg_N u) : hg_N U :=
  ⟨fun q hq => va_Nw.same rfl hv (h.1 q hq), fun q hq => va_Nw.same rfl hv (h.2.1 q hq), fun q hq => (h.2.2.1 q hq).moved (by rw [hv]; exact Vm.Alike.refl _), va_Nw.same rfl hv h.2.2.2.1, fun C hC => va_AO.moved (by rw [hv]; exact Vm.Alike.refl _) (h.2.2.2.2 C hC)⟩
def hg_K (D : va_G) (U : State) : Prop := va_K D vwCl (hg_T D) U ∧ hg_N U
def hg_P (D : va_G) (b0 : Nat) (L : List Nat) (f : Nat → va_E) (H : Heap) : Prop := va_P D vwCl (va_pl L f) H ∧ va_D (hg_A b0) (va_pl L f)
def hg_W (D : va_G) (b0 : Nat) (L : List Nat) (f : Nat → va_E) (H0 H : Heap) (locs : List Loc) : Prop := hg_P D b0 L f H ∧ va_S (hg_A b0) H0 H locs
def hg_Pc (D : va_G) (b0 : Nat) (L : List Nat) (f : Nat → va_E) (av : List Value) : Array Value → State → Prop := va_Pc av (fun U => b0 ≤ U.heap.size ∧ hg_P D b0 L f U.heap ∧ hg_K D U)
abbrev hg_S : Type := List Nat × (Nat → va_E)
def hg_B (D : va_G) (b0 : Nat) (u : hg_S) (t : State) : Prop := hg_P D b0 u.1 u.2 t.heap
/-- contracts: an int (a boolean), nothing, a reference -/
def hg_Mi (l : Launch) (y : MethodName) (ws : List Cond) (rm : Room) (D : va_G) (b0 : Nat) (L : List Nat) (f : Nat → va_E) (av : List Value) (post : Int32 → hg_S → Prop) (mc ms : Nat) : Prop := Met l y ws rm (hg_Pc D b0 L f av) (va_Qi post (hg_B D b0) (hg_A b0)) mc ms (hg_A b0)
def hg_Mv (l : Launch) (y : MethodName) (ws : List Cond) (rm : Room) (D : va_G) (b0 : Nat) (L : List Nat) (f : Nat → va_E) (av : List Value) (post : hg_S → Prop) (mc ms : Nat) : Prop := Met l y ws rm (hg_Pc D b0 L f av) (va_Qv post (hg_B D b0) (hg_A b0)) mc ms (hg_A b0)
def hg_Mq (l : Launch) (y : MethodName) (ws : List Cond) (rm : Room) (D : va_G) (b0 : Nat) (L : List Nat) (f : Nat → va_E) (av : List Value) (post : Option Nat → hg_S → Prop) (mc ms : Nat) : Prop := Met l y ws rm (hg_Pc D b0 L f av) (va_Qq post (hg_B D b0) (hg_A b0)) mc ms (hg_A b0)
/-- the same where the answer and the world behind are said outright, and nothing is made -/
abbrev hg_Fi (l : Launch) (y : MethodName) (ws : List Cond) (rm : Room) (D : va_G) (b0 : Nat) (L : List Nat) (f : Nat → va_E) (av : List Value) (r : Int32) (f' : Nat → va_E) : Prop := hg_Mi l y ws rm D b0 L f av (fun x u => x = r ∧ u = (L, f')) 0 0
abbrev hg_Fv (l : Launch) (y : MethodName) (ws : List Cond) (rm : Room) (D : va_G) (b0 : Nat) (L : List Nat) (f : Nat → va_E) (av : List Value) (f' : Nat → va_E) : Prop := hg_Mv l y ws rm D b0 L f av (fun u => u = (L, f')) 0 0
abbrev hg_Fq (l : Launch) (y : MethodName) (ws : List Cond) (rm : Room) (D : va_G) (b0 : Nat) (L : List Nat) (f : Nat → va_E) (av : List Value) (r : Option Nat) (f' : Nat → va_E) : Prop := hg_Mq l y ws rm D b0 L f av (fun x u => x = r ∧ u = (L, f')) 0 0
theorem hg_blind (D : va_G) (b0 : Nat) (L : List Nat) (f : Nat → va_E) (av : List Value) : FrameBlind (hg_Pc D b0 L f av) := by
  intro a U g mk q
  obtain ⟨q0, q1, q2, q3, q4⟩ := q
  exact ⟨q0, q1, q2, va_K.moved (u := U) (U := U.calling g mk a) (Vm.Alike.refl U.vm) q3, hg_N_same (u := U) (U := U.calling g mk a) rfl q4⟩
theorem hg_pre {D : va_G} {b0 : Nat} {L : List Nat} {f : Nat → va_E} {av : List Value} {s : State} {H : Heap} {locs : List Loc} (hb0 : b0 ≤ s.heap.size) (hK : hg_K D s) (w : hg_W D b0 L f s.heap H locs) : ∀ U : State, U.heap = H → s.WarmedH U.vm → hg_Pc D b0 L f av av.toArray U :=
  fun U hU hW => ⟨rfl, by rw [hU]; exact Nat.le_trans hb0 w.2.1, by rw [hU]; exact w.1, va_K.moved hW.alike hK.1, hg_N_moved hW hK.2⟩
/-- what every row of a walk needs of the frame that it is in -/
def hg_C (p : Program) (s : State) (m : MethodId) (args : Array Value) (c : Code) (cc : ByteArray) (nL : Nat) (Ts : List Cond) (own : String) (D : va_G) (b0 : Nat) : Prop :=
  CallFix p m c cc nL s args Ts own ∧ hg_K D s ∧ b0 ≤ s.heap.size
section HG
variable {p : Program} {l : Launch} {e : Env} {R : Room} {s : State} {m : MethodId} {args : Array Value} {below : List Frame} {meth : Method} {c : Code} {H : Heap} {locs : List Loc} {cells slots : Nat} {Q : State → Prop}
variable {cc : ByteArray} {nL : Nat} {Ts : List Cond} {own : String} {D : va_G} {b0 : Nat} {L : List Nat} {f : Nat → va_E} {pc : Nat} {ls : Array Slot} {rest st : List Value} {a : Nat}
theorem hg_in_i {y : MethodName} {ws ws' : List Cond} {rm : Room} {av : List Value} {post : Int32 → hg_S → Prop} {mc ms : Nat} {rt : FieldType} (hy : plainName y.cls = true) (hw : ws = .code y cc nL (some rt) :: ws') (hlen : (lg_sl av).length ≤ nL)
    (body : ∀ (p : Program) (e : Env) (s : State) (m : MethodId) (args : Array Value) (below : List Frame) (meth : Method) (c : Code) (R : Room) (Q : State → Prop), hg_C p s m args c cc nL ws y.cls D b0 → R = rm →
      (∀ (H : Heap) (locs : List Loc) (v : Int32) (u : hg_S) (pc : Nat) (ls : Array Slot), hg_W D b0 u.1 u.2 s.heap H locs → post v u → narrow rt (.int v) = .int v → decode cc pc = .ok (.ireturn, 1) → W p l e R s m args below meth c H locs mc ms Q (F0 m pc ls [.int v])) →
      ∀ (H : Heap) (locs : List Loc) (ls : Array Slot), hg_W D b0 L f s.heap H locs → lv_has ls nL (lv_args 0 av) → W p l e R s m args below meth c H locs 0 0 Q (F0 m 0 ls [])) : hg_Mi l y ws rm D b0 L f av post mc ms := by
  refine Met.ofW (cc := cc) (maxL := nL) (ret := some rt) hy hw ?_
  intro p e s m args below meth c s₁ B hml hv
  obtain ⟨rfl, hb0, hP, hK⟩ := hv
  have hlocks := B.notSynchronized
  have hl := lv_entry av (n := nL) hlen
  rw [lg_entry_eq]
  refine body p e s m av.toArray below meth c rm _ ⟨⟨B.exec, B.bytes, hml, findClass_of_methodNamed B.named, atoms_spec (ws := ws) B.pre⟩, hK, hb0⟩ rfl ?_ s.heap [] _ ⟨hP, va_S.rf⟩ hl
  intro H locs v u pc ls w hp hn hd
  exact W.zret B.exec B.bytes B.returns hn (fun t ht hW => ⟨⟨v, u, rfl, hp, by unfold hg_B; rw [ht]; exact w.1⟩, w.2.F ht⟩) w.2.2.2 hd
theorem hg_in_v {y : MethodName} {ws ws' : List Cond} {rm : Room} {av : List Value} {post : hg_S → Prop} {mc ms : Nat} (hy : plainName y.cls = true) (hw : ws = .code y cc nL none :: ws') (hlen : (lg_sl av).length ≤ nL)
    (body : ∀ (p : Program) (e : Env) (s : State) (m : MethodId) (args : Array Value) (below : List Frame) (meth : Method) (c : Code) (R : Room) (Q : State → Prop), hg_C p s m args c cc nL ws y.cls D b0 → meth.name = y.name → R = rm →
      (∀ (H : Heap) (locs : List Loc) (u : hg_S) (pc : Nat) (ls : Array Slot), hg_W D b0 u.1 u.2 s.heap H locs → post u → decode cc pc = .ok (.return_, 1) → W p l e R s m args below meth c H locs mc ms Q (F0 m pc ls [])) →
      ∀ (H : Heap) (locs : List Loc) (ls : Array Slot), hg_W D b0 L f s.heap H locs → lv_has ls nL (lv_args 0 av) → W p l e R s m args below meth c H locs 0 0 Q (F0 m 0 ls [])) : hg_Mv l y ws rm D b0 L f av post mc ms := by
  refine Met.ofW (cc := cc) (maxL := nL) (ret := none) hy hw ?_
  intro p e s m args below meth c s₁ B hml hv
  obtain ⟨rfl, hb0, hP, hK⟩ := hv
  have hlocks := B.notSynchronized
  have hl := lv_entry av (n := nL) hlen
  rw [lg_entry_eq]
  refine body p e s m av.toArray below meth c rm _ ⟨⟨B.exec, B.bytes, hml, findClass_of_methodNamed B.named, atoms_spec (ws := ws) B.pre⟩, hK, hb0⟩ (name_of_methodNamed B.named B.method).1 rfl ?_ s.heap [] _ ⟨hP, va_S.rf⟩ hl
  intro H locs u pc ls w hp hd
  exact W.vret B.exec B.bytes B.returns (fun t ht hW => ⟨⟨u, rfl, hp, by unfold hg_B; rw [ht]; exact w.1⟩, w.2.F ht⟩) w.2.2.2 hd
theorem hg_in_q {y : MethodName} {ws ws' : List Cond} {rm : Room} {av : List Value} {post : Option Nat → hg_S → Prop} {mc ms : Nat} {rt : String} (hy : plainName y.cls = true) (hw : ws = .code y cc nL (some (.object rt)) :: ws') (hlen : (lg_sl av).length ≤ nL)
    (body : ∀ (p : Program) (e : Env) (s : State) (m : MethodId) (args : Array Value) (below : List Frame) (meth : Method) (c : Code) (R : Room) (Q : State → Prop), hg_C p s m args c cc nL ws y.cls D b0 → R = rm →
      (∀ (H : Heap) (locs : List Loc) (v : Option Nat) (u : hg_S) (pc : Nat) (ls : Array Slot), hg_W D b0 u.1 u.2 s.heap H locs → post v u → decode cc pc = .ok (.areturn, 1) → W p l e R s m args below meth c H locs mc ms Q (F0 m pc ls [va_rf v])) →
      ∀ (H : Heap) (locs : List Loc) (ls : Array Slot), hg_W D b0 L f s.heap H locs → lv_has ls nL (lv_args 0 av) → W p l e R s m args below meth c H locs 0 0 Q (F0 m 0 ls [])) : hg_Mq l y ws rm D b0 L f av post mc ms := by
  refine Met.ofW (cc := cc) (maxL := nL) (ret := some (.object rt)) hy hw ?_
  intro p e s m args below meth c s₁ B hml hv
  obtain ⟨rfl, hb0, hP, hK⟩ := hv
  have hlocks := B.notSynchronized
  have hl := lv_entry av (n := nL) hlen
  rw [lg_entry_eq]
  refine body p e s m av.toArray below meth c rm _ ⟨⟨B.exec, B.bytes, hml, findClass_of_methodNamed B.named, atoms_spec (ws := ws) B.pre⟩, hK, hb0⟩ rfl ?_ s.heap [] _ ⟨hP, va_S.rf⟩ hl
  intro H locs v u pc ls w hp hd
  exact W.aret B.exec B.bytes B.returns (Or.inl ⟨_, rfl⟩) (by cases v with
    | none => exact Or.inl rfl
    | some a => exact Or.inr ⟨a, rfl⟩) (fun t ht hW => ⟨⟨v, u, rfl, hp, by unfold hg_B; rw [ht]; exact w.1⟩, w.2.F ht⟩) w.2.2.2 hd
/-- places in the world -/
theorem hg_at (ha : a ∈ L) {x : va_E} (hf : f a = x) : ∃ k : Nat, (va_pl L f)[k]? = some (a, x) := by
  obtain ⟨k, hk⟩ := va_pl_get (X := []) (f := f) ha
  exact ⟨k, by rw [← hf]; exact hk⟩
theorem hg_up {A : Nat → Prop} (hD : va_D A (va_pl L f)) {k : Nat} {x y : va_E} (ha : a ∈ L) (hk : (va_pl L f)[k]? = some (a, x)) : (va_pl L f).set k (a, y) = va_pl L (va_up f a y) := by
  have hx : x = f a := by
    obtain ⟨i, hi⟩ := List.getElem?_of_mem (List.mem_of_getElem? hk)
    have h2 := List.mem_of_getElem? hk
    simp only [va_pl, List.mem_map] at h2
    obtain ⟨z, hz, e⟩ := h2
    cases e
    rfl
  subst hx
  exact va_pl_set (X := []) hD ha hk
end HG
