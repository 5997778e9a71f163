/-! stalls made: of five kinds -/
abbrev al_five (ci : Nat) : Prop := ci = 5 ∨ ci = 1 ∨ ci = 0 ∨ ci = 3 ∨ ci = 8
abbrev al_z7 : List Value := [.int 0, .int 0, .int 0, .int 0, .int 0, .int 0, .int 0]
theorem al_kc5 (k : Int32) : al_five (mk_kc k) := by
  unfold mk_kc
  repeat' split
  all_goals simp [al_five]
section HG
variable {p : Program} {l : Launch} {e : Env} {R : Room} {s : State} {m : MethodId} {args : Array Value} {below : List Frame} {meth : Method} {c : Code} {H : Heap} {locs : List Loc} {cells slots : Nat} {Q : State → Prop}
variable {cc : ByteArray} {nL : Nat} {Ts : List Cond} {own : String} {D : va_G} {b0 : Nat} {L N : List Nat} {f : Nat → va_E} {pc : Nat} {ls : Array Slot} {rest st : List Value} {a : Nat} {ci : Nat} {vs : List Value}
theorem hg_getS (X : hg_C p s m args c cc nL Ts own D b0) (w : hg_W D b0 L f s.heap H locs) (hin : mk_in Ts) (ha : a ∈ L) (hci : al_five ci) (hf : f a = .inr (ci, vs)) {index : Nat} (k : Nat) (hk : k < 7) (hlink : Cond.fieldLink own index "HungStalls$Stall" (TX0 k).2.1 (TX0 k).2.2.1 ∈ Ts) {v : Value} (hv : vs[k]? = some v) (hdg : decode cc pc = .ok (.getfield index, 3))
    (kk : W p l e R s m args below meth c H locs cells slots Q (F0 m (pc + 3) ls (v :: rest))) : W p l e R s m args below meth c H locs cells slots Q (F0 m pc ls (.ref a :: rest)) := by
  have h1 : "HungStalls$Stall" = (TX0 k).1 := by
    rcases (show k = 0 ∨ k = 1 ∨ k = 2 ∨ k = 3 ∨ k = 4 ∨ k = 5 ∨ k = 6 by omega) with rfl | rfl | rfl | rfl | rfl | rfl | rfl <;> rfl
  rcases hci with rfl | rfl | rfl | rfl | rfl
  · exact hg_get (C := RX7) (T := TX7) (N := 7) X w ha hf hin.2.2.2.1 rfl k hk hlink (Or.inl h1) hv hdg kk
  · exact hg_get (C := RX2) (T := TX2) (N := 7) X w ha hf hin.2.1 rfl k hk hlink (Or.inl h1) hv hdg kk
  · exact hg_get (C := RX0) (T := TX0) (N := 7) X w ha hf hin.1 rfl k hk hlink (Or.inl h1) hv hdg kk
  · exact hg_get (C := RX4) (T := TX4) (N := 7) X w ha hf hin.2.2.1 rfl k hk hlink (Or.inl h1) hv hdg kk
  · exact hg_get (C := RX10) (T := TX10) (N := 7) X w ha hf hin.2.2.2.2 rfl k hk hlink (Or.inl h1) hv hdg kk
theorem hg_putS (X : hg_C p s m args c cc nL Ts own D b0) (w : hg_W D b0 L f s.heap H locs) (hin : mk_in Ts) (ha : a ∈ L) (hci : al_five ci) (hf : f a = .inr (ci, vs)) (hlen : vs.length = 7) {index : Nat} (k : Nat) (hk : k < 7) (hlink : Cond.fieldLink own index "HungStalls$Stall" (TX0 k).2.1 (TX0 k).2.2.1 ∈ Ts) {v : Int32} (hnar : k = 6 → v = 0 ∨ v = 1) (hdg : decode cc pc = .ok (.putfield index, 3))
    (kk : ∀ (H1 : Heap) (locs1 : List Loc), hg_W D b0 L (va_up f a (.inr (ci, vs.set k (.int v)))) s.heap H1 locs1 → W p l e R s m args below meth c H1 locs1 cells slots Q (F0 m (pc + 3) ls rest)) : W p l e R s m args below meth c H locs cells slots Q (F0 m pc ls (.int v :: .ref a :: rest)) := by
  have hl : k < vs.length := by omega
  rcases hci with rfl | rfl | rfl | rfl | rfl <;>
    (first
      | refine hg_put (C := RX7) (T := TX7) (N := 7) (ty0 := tyX7) (ci := 5) X w ha hf hin.2.2.2.1 tyX7_ok nmX7 rfl k hk hlink (Or.inl ?_) ?_ ?_ ?_ hl hdg kk
      | refine hg_put (C := RX2) (T := TX2) (N := 7) (ty0 := tyX2) (ci := 1) X w ha hf hin.2.1 tyX2_ok nmX2 rfl k hk hlink (Or.inl ?_) ?_ ?_ ?_ hl hdg kk
      | refine hg_put (C := RX0) (T := TX0) (N := 7) (ty0 := tyX0) (ci := 0) X w ha hf hin.1 tyX0_ok nmX0 rfl k hk hlink (Or.inl ?_) ?_ ?_ ?_ hl hdg kk
      | refine hg_put (C := RX4) (T := TX4) (N := 7) (ty0 := tyX4) (ci := 3) X w ha hf hin.2.2.1 tyX4_ok nmX4 rfl k hk hlink (Or.inl ?_) ?_ ?_ ?_ hl hdg kk
      | refine hg_put (C := RX10) (T := TX10) (N := 7) (ty0 := tyX10) (ci := 8) X w ha hf hin.2.2.2.2 tyX10_ok nmX10 rfl k hk hlink (Or.inl ?_) ?_ ?_ ?_ hl hdg kk) <;>
    (rcases (show k = 0 ∨ k = 1 ∨ k = 2 ∨ k = 3 ∨ k = 4 ∨ k = 5 ∨ k = 6 by omega) with rfl | rfl | rfl | rfl | rfl | rfl | rfl <;> first | rfl | (rcases hnar rfl with q | q <;> rw [q] <;> rfl))
/-- a stall's number set to 0 where it is 0 -/
theorem hg_put0 (X : hg_C p s m args c cc nL Ts own D b0) (w : hg_W D b0 L f s.heap H locs) (hin : mk_in Ts) (ha : a ∈ L) (hci : al_five ci) (hf : f a = .inr (ci, al_z7)) {index : Nat} (k : Nat) (hk : k < 7) (hlink : Cond.fieldLink own index "HungStalls$Stall" (TX0 k).2.1 (TX0 k).2.2.1 ∈ Ts) (hdg : decode cc pc = .ok (.putfield index, 3))
    (kk : ∀ (H1 : Heap) (locs1 : List Loc), hg_W D b0 L f s.heap H1 locs1 → W p l e R s m args below meth c H1 locs1 cells slots Q (F0 m (pc + 3) ls rest)) : W p l e R s m args below meth c H locs cells slots Q (F0 m pc ls (.int 0 :: .ref a :: rest)) := by
  refine hg_putS X w hin ha hci hf rfl k hk hlink (fun _ => Or.inl rfl) hdg (fun H1 locs1 w1 => kk H1 locs1 ?_)
  have e1 : al_z7.set k (.int 0) = al_z7 := by
    rcases (show k = 0 ∨ k = 1 ∨ k = 2 ∨ k = 3 ∨ k = 4 ∨ k = 5 ∨ k = 6 by omega) with rfl | rfl | rfl | rfl | rfl | rfl | rfl <;> rfl
  have e2 : va_up f a (.inr (ci, al_z7.set k (.int 0))) = f := by rw [e1, ← hf, hs_up_id]
  rw [e2] at w1
  exact w1
end HG
