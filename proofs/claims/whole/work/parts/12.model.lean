/-! THE REFERENCE'S STATE: one object, nine arrays; all its numbers are M: M k 0 the field k, M k j the array k at j -/
def mo_len (k : Nat) : Nat := match k with
  | 0 => 1400
  | 2 => 2
  | 3 => 8
  | 4 => 8
  | 5 => 320
  | 6 => 40
  | 8 => 100
  | 15 => 64
  | _ => 16
abbrev mo_ks : List Nat := [0, 2, 3, 4, 5, 6, 8, 15, 17]
abbrev mo_sc : List Nat := [1, 7, 9, 10, 11, 12, 13, 14, 16, 18]
def mo_fs (ma : Nat → Nat) (M : Nat → Nat → Int32) : List Value := [.ref (ma 0), .int (M 1 0), .ref (ma 2), .ref (ma 3), .ref (ma 4), .ref (ma 5), .ref (ma 6), .int (M 7 0), .ref (ma 8), .int (M 9 0), .int (M 10 0), .int (M 11 0), .int (M 12 0), .int (M 13 0), .int (M 14 0), .ref (ma 15), .int (M 16 0), .ref (ma 17), .int (M 18 0)]
def mo_ar (D : va_G) (k : Nat) (g : Nat → Int32) : va_E := .inl (if k = 2 then D.1 12 else D.1 11, mo_len k, .inl g)
def mo_F (D : va_G) (f : Nat → va_E) (mo : Nat) (ma : Nat → Nat) (M : Nat → Nat → Int32) : Nat → va_E := fun a =>
  if a = mo then .inr (10, mo_fs ma M) else match mo_ks.find? (fun k => decide (ma k = a)) with
    | some k => mo_ar D k (M k)
    | none => f a
def mo_ok (L : List Nat) (mo : Nat) (ma : Nat → Nat) : Prop := mo ∈ L ∧ (∀ k ∈ mo_ks, ma k ∈ L ∧ ma k ≠ mo) ∧ ∀ k ∈ mo_ks, ∀ j ∈ mo_ks, ma k = ma j → k = j
/-- a field set, an array's place set -/
abbrev mo_w (M : Nat → Nat → Int32) (k j : Nat) (v : Int32) : Nat → Nat → Int32 := va_up M k (va_up (M k) j v)
theorem mo_at0 (D : va_G) (f : Nat → va_E) (mo : Nat) (ma : Nat → Nat) (M : Nat → Nat → Int32) : mo_F D f mo ma M mo = .inr (10, mo_fs ma M) := by simp [mo_F]
theorem mo_find {L : List Nat} {mo : Nat} {ma : Nat → Nat} (hm : mo_ok L mo ma) {k : Nat} (hk : k ∈ mo_ks) : mo_ks.find? (fun j => decide (ma j = ma k)) = some k := by
  cases h : mo_ks.find? (fun j => decide (ma j = ma k)) with
  | none =>
    have := List.find?_eq_none.mp h k hk
    simp at this
  | some j =>
    have h1 := List.find?_some h
    have h2 := List.mem_of_find?_eq_some h
    rw [hm.2.2 j h2 k hk (by simpa using h1)]
theorem mo_atk {L : List Nat} {mo : Nat} {ma : Nat → Nat} (hm : mo_ok L mo ma) (D : va_G) (f : Nat → va_E) (M : Nat → Nat → Int32) {k : Nat} (hk : k ∈ mo_ks) : mo_F D f mo ma M (ma k) = mo_ar D k (M k) := by
  unfold mo_F
  rw [if_neg (hm.2.1 k hk).2, mo_find hm hk]
theorem mo_up0 {D : va_G} {f : Nat → va_E} {mo : Nat} {ma : Nat → Nat} {M M' : Nat → Nat → Int32} (h : ∀ k ∈ mo_ks, M' k = M k) : va_up (mo_F D f mo ma M) mo (.inr (10, mo_fs ma M')) = mo_F D f mo ma M' := by
  funext a
  by_cases ha : a = mo
  · simp [va_up, mo_F, ha]
  · simp only [va_up, mo_F, if_neg ha]
    cases hq : mo_ks.find? (fun k => decide (ma k = a)) with
    | none => rfl
    | some k => show mo_ar D k (M k) = mo_ar D k (M' k); rw [h k (List.mem_of_find?_eq_some hq)]
theorem mo_fs_up (ma : Nat → Nat) (M : Nat → Nat → Int32) (g : Nat → Int32) {k : Nat} (hk : k ∈ mo_ks) : mo_fs ma (va_up M k g) = mo_fs ma M := by
  simp only [mo_ks, List.mem_cons, List.not_mem_nil, or_false] at hk
  rcases hk with rfl | rfl | rfl | rfl | rfl | rfl | rfl | rfl | rfl <;> rfl
theorem mo_upk {L : List Nat} {mo : Nat} {ma : Nat → Nat} (hm : mo_ok L mo ma) {D : va_G} {f : Nat → va_E} {M : Nat → Nat → Int32} {k : Nat} (hk : k ∈ mo_ks) (g : Nat → Int32) : va_up (mo_F D f mo ma M) (ma k) (mo_ar D k g) = mo_F D f mo ma (va_up M k g) := by
  funext a
  by_cases ha : a = mo
  · subst ha
    rw [va_up_ne _ _ (fun q => (hm.2.1 k hk).2 q.symm), mo_at0, mo_at0, mo_fs_up ma M g hk]
  · by_cases hb : a = ma k
    · subst hb
      rw [va_up_self, mo_atk hm D f _ hk, va_up_self]
    · rw [va_up_ne _ _ hb]
      simp only [mo_F, if_neg ha]
      cases hq : mo_ks.find? (fun k => decide (ma k = a)) with
      | none => rfl
      | some j =>
        have h1 := List.find?_some hq
        have hne : j ≠ k := fun q => hb (by rw [← q]; have h3 : ma j = a := by simpa using h1
                                            exact h3.symm)
        show mo_ar D j (M j) = mo_ar D j (va_up M k g j)
        rw [va_up_ne _ _ hne]
theorem mo_fs_set (ma : Nat → Nat) (M : Nat → Nat → Int32) (v : Int32) {k : Nat} (hk : k ∈ mo_sc) : (mo_fs ma M).set k (.int v) = mo_fs ma (mo_w M k 0 v) := by
  simp only [mo_sc, List.mem_cons, List.not_mem_nil, or_false] at hk
  rcases hk with rfl | rfl | rfl | rfl | rfl | rfl | rfl | rfl | rfl | rfl <;> rfl
theorem mo_sc_ks {j k : Nat} (hk : k ∈ mo_sc) (hj : j ∈ mo_ks) : j ≠ k := by
  intro q
  subst q
  simp only [mo_ks, List.mem_cons, List.not_mem_nil, or_false] at hj
  rcases hj with rfl | rfl | rfl | rfl | rfl | rfl | rfl | rfl | rfl <;> simp at hk
abbrev mo_Fi (l : Launch) (y : MethodName) (ws : List Cond) (rm : Room) (D : va_G) (b0 : Nat) (L : List Nat) (f : Nat → va_E) (mo : Nat) (ma : Nat → Nat) (M : Nat → Nat → Int32) (As : List Value) (r : Int32) (M' : Nat → Nat → Int32) : Prop := hg_Fi l y ws rm D b0 L (mo_F D f mo ma M) (.ref mo :: As) r (mo_F D f mo ma M')
abbrev mo_Fv (l : Launch) (y : MethodName) (ws : List Cond) (rm : Room) (D : va_G) (b0 : Nat) (L : List Nat) (f : Nat → va_E) (mo : Nat) (ma : Nat → Nat) (M : Nat → Nat → Int32) (As : List Value) (M' : Nat → Nat → Int32) : Prop := hg_Fv l y ws rm D b0 L (mo_F D f mo ma M) (.ref mo :: As) (mo_F D f mo ma M')
section HG
variable {p : Program} {l : Launch} {e : Env} {R : Room} {s : State} {m : MethodId} {args : Array Value} {below : List Frame} {meth : Method} {c : Code} {H : Heap} {locs : List Loc} {cells slots : Nat} {Q : State → Prop}
variable {cc : ByteArray} {nL : Nat} {Ts : List Cond} {own : String} {D : va_G} {b0 : Nat} {L : List Nat} {f : Nat → va_E} {pc : Nat} {ls : Array Slot} {rest st : List Value} {a : Nat} {mo : Nat} {ma : Nat → Nat} {M : Nat → Nat → Int32}
theorem mo_get (X : hg_C p s m args c cc nL Ts own D b0) (w : hg_W D b0 L (mo_F D f mo ma M) s.heap H locs) (hm : mo_ok L mo ma) (hin : ∀ w ∈ wsX120, w ∈ Ts) {index : Nat} (k : Nat) (hk : k < 19) (hlink : Cond.fieldLink own index RX12 (TX12 k).2.1 (TX12 k).2.2.1 ∈ Ts) {v : Value} (hv : (mo_fs ma M)[k]? = some v) (hdg : decode cc pc = .ok (.getfield index, 3))
    (kk : W p l e R s m args below meth c H locs cells slots Q (F0 m (pc + 3) ls (v :: rest))) : W p l e R s m args below meth c H locs cells slots Q (F0 m pc ls (.ref mo :: rest)) :=
  hg_get X w hm.1 (mo_at0 D f mo ma M) hin rfl k hk hlink (Or.inl (by
    match k, hk with
    | 0, _ | 1, _ | 2, _ | 3, _ | 4, _ | 5, _ | 6, _ | 7, _ | 8, _ | 9, _ | 10, _ | 11, _ | 12, _ | 13, _ | 14, _ | 15, _ | 16, _ | 17, _ | 18, _ => rfl)) hv hdg kk
theorem mo_put (X : hg_C p s m args c cc nL Ts own D b0) (w : hg_W D b0 L (mo_F D f mo ma M) s.heap H locs) (hm : mo_ok L mo ma) (hin : ∀ w ∈ wsX120, w ∈ Ts) {index : Nat} (k : Nat) (hk : k ∈ mo_sc) (hlink : Cond.fieldLink own index RX12 (TX12 k).2.1 (TX12 k).2.2.1 ∈ Ts) {v : Int32} (hdg : decode cc pc = .ok (.putfield index, 3))
    (kk : ∀ (H1 : Heap) (locs1 : List Loc), hg_W D b0 L (mo_F D f mo ma (mo_w M k 0 v)) s.heap H1 locs1 → W p l e R s m args below meth c H1 locs1 cells slots Q (F0 m (pc + 3) ls rest)) : W p l e R s m args below meth c H locs cells slots Q (F0 m pc ls (.int v :: .ref mo :: rest)) := by
  have hk' := hk
  simp only [mo_sc, List.mem_cons, List.not_mem_nil, or_false] at hk'
  have h19 : k < 19 := by rcases hk' with rfl | rfl | rfl | rfl | rfl | rfl | rfl | rfl | rfl | rfl <;> decide
  refine hg_put X w hm.1 (mo_at0 D f mo ma M) hin tyX12_ok nmX12 rfl k h19 hlink (Or.inl ?_) ?_ ?_ ?_ h19 hdg (fun H1 locs1 w1 => ?_)
  · rcases hk' with rfl | rfl | rfl | rfl | rfl | rfl | rfl | rfl | rfl | rfl <;> rfl
  · rcases hk' with rfl | rfl | rfl | rfl | rfl | rfl | rfl | rfl | rfl | rfl <;> rfl
  · rcases hk' with rfl | rfl | rfl | rfl | rfl | rfl | rfl | rfl | rfl | rfl <;> rfl
  · rcases hk' with rfl | rfl | rfl | rfl | rfl | rfl | rfl | rfl | rfl | rfl <;> rfl
  · rw [mo_fs_set ma M v hk, mo_up0 (fun j hj => va_up_ne _ _ (mo_sc_ks hk hj))] at w1
    exact kk H1 locs1 w1
theorem mo_iald (X : hg_C p s m args c cc nL Ts own D b0) (w : hg_W D b0 L (mo_F D f mo ma M) s.heap H locs) (hm : mo_ok L mo ma) (k : Nat) (hk : k ∈ mo_ks) (hk2 : k ≠ 2) {i : Int32} (j : Nat) (hi : i = nI j) (hj : j < mo_len k) (hdg : decode cc pc = .ok (.iaload, 1))
    (kk : W p l e R s m args below meth c H locs cells slots Q (F0 m (pc + 1) ls (.int (M k j) :: rest))) : W p l e R s m args below meth c H locs cells slots Q (F0 m pc ls (.int i :: .ref (ma k) :: rest)) :=
  hg_iald X w (hm.2.1 k hk).1 (by rw [mo_atk hm D f M hk, mo_ar, if_neg hk2]) j hi hj (by unfold mo_len; split <;> decide) hdg kk
theorem mo_iast (X : hg_C p s m args c cc nL Ts own D b0) (w : hg_W D b0 L (mo_F D f mo ma M) s.heap H locs) (hm : mo_ok L mo ma) (k : Nat) (hk : k ∈ mo_ks) (hk2 : k ≠ 2) {i v : Int32} (j : Nat) (hi : i = nI j) (hj : j < mo_len k) (hdg : decode cc pc = .ok (.iastore, 1))
    (kk : ∀ (H1 : Heap) (locs1 : List Loc), hg_W D b0 L (mo_F D f mo ma (mo_w M k j v)) s.heap H1 locs1 → W p l e R s m args below meth c H1 locs1 cells slots Q (F0 m (pc + 1) ls rest)) : W p l e R s m args below meth c H locs cells slots Q (F0 m pc ls (.int v :: .int i :: .ref (ma k) :: rest)) := by
  refine hg_iast X w (hm.2.1 k hk).1 (by rw [mo_atk hm D f M hk, mo_ar, if_neg hk2]) j hi hj (by unfold mo_len; split <;> decide) hdg (fun H1 locs1 w1 => ?_)
  have h0 : (Sum.inl (D.1 11, mo_len k, Sum.inl (va_up (M k) j v)) : va_E) = mo_ar D k (va_up (M k) j v) := by rw [mo_ar, if_neg hk2]
  rw [h0, mo_upk hm hk] at w1
  exact kk H1 locs1 w1
end HG
