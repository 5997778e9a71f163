/-! THE CLASS'S MARKET: an object, two arrays, n stalls of five kinds; all its numbers are g, laid as the reference's 50 numbers; ad: the addresses, 0 taut, 1 stalls, 2 + i the stall i -/
def mk_kc (sort : Int32) : Nat := if sort = 1 then 5 else if sort = 2 then 1 else if sort = 3 then 0 else if sort = 4 then 3 else 8
def mk_st (g : Nat → Int32) (i : Nat) : List Value := [.int (nI i), .int (g (14 + i)), .int (g (20 + i)), .int (g (26 + i)), .int (g (32 + i)), .int (g (38 + i)), .int (g (44 + i))]
def mk_ta (g : Nat → Int32) : Nat → Int32 := fun j => if j < 3 then g (5 + j) else 0
def mk_rr (ad : Nat → Nat) (n : Nat) : Nat → Option Nat := fun j => if j < n then some (ad (2 + j)) else none
def mk_fs (ad : Nat → Nat) (g : Nat → Int32) : List Value := [.int (g 0), .int (g 1), .int (g 2), .int (g 3), .ref (ad 0), .ref (ad 1)]
def mk_e (D : va_G) (ad : Nat → Nat) (n : Nat) (g : Nat → Int32) (k : Nat) : va_E := match k with
  | 0 => .inl (D.1 11, 3, .inl (mk_ta g))
  | 1 => .inl (D.1 15, 6, .inr (.inr (.inr (.inr (mk_rr ad n)))))
  | i + 2 => .inr (mk_kc (g (8 + i)), mk_st g i)
def mk_F (D : va_G) (f : Nat → va_E) (mk : Nat) (ad : Nat → Nat) (n : Nat) (g : Nat → Int32) : Nat → va_E := fun a =>
  if a = mk then .inr (2, mk_fs ad g) else match (List.range (n + 2)).find? (fun k => decide (ad k = a)) with
    | some k => mk_e D ad n g k
    | none => f a
def mk_ok (L : List Nat) (mk : Nat) (ad : Nat → Nat) (n : Nat) : Prop := mk ∈ L ∧ (∀ k, k < n + 2 → ad k ∈ L ∧ ad k ≠ mk) ∧ ∀ k, k < n + 2 → ∀ j, j < n + 2 → ad k = ad j → k = j
/-- every stall is of one of the five kinds; n of them -/
def mk_sr (g : Nat → Int32) (n : Nat) : Prop := g 3 = nI n ∧ n ≤ 6 ∧ (∀ i, i < n → g (8 + i) = 1 ∨ g (8 + i) = 2 ∨ g (8 + i) = 3 ∨ g (8 + i) = 4 ∨ g (8 + i) = 5) ∧ ∀ i, i < n → g (44 + i) = 0 ∨ g (44 + i) = 1
theorem mk_at0 (D : va_G) (f : Nat → va_E) (mk : Nat) (ad : Nat → Nat) (n : Nat) (g : Nat → Int32) : mk_F D f mk ad n g mk = .inr (2, mk_fs ad g) := by simp [mk_F]
theorem mk_find {L : List Nat} {mk : Nat} {ad : Nat → Nat} {n : Nat} (hm : mk_ok L mk ad n) {k : Nat} (hk : k < n + 2) : (List.range (n + 2)).find? (fun j => decide (ad j = ad k)) = some k := by
  cases h : (List.range (n + 2)).find? (fun j => decide (ad j = ad k)) with
  | none =>
    have := List.find?_eq_none.mp h k (List.mem_range.mpr hk)
    simp at this
  | some j =>
    have h1 := List.find?_some h
    have h2 := List.mem_range.mp (List.mem_of_find?_eq_some h)
    rw [hm.2.2 j h2 k hk (by simpa using h1)]
theorem mk_atk {L : List Nat} {mk : Nat} {ad : Nat → Nat} {n : Nat} (hm : mk_ok L mk ad n) (D : va_G) (f : Nat → va_E) (g : Nat → Int32) {k : Nat} (hk : k < n + 2) : mk_F D f mk ad n g (ad k) = mk_e D ad n g k := by
  unfold mk_F
  rw [if_neg (hm.2.1 k hk).2, mk_find hm hk]
/-- one cell of it changed: the market's own numbers so changed -/
theorem mk_upk {L : List Nat} {mk : Nat} {ad : Nat → Nat} {n : Nat} (hm : mk_ok L mk ad n) {D : va_G} {f : Nat → va_E} {g g' : Nat → Int32} {k : Nat} (hk : k < n + 2) (h0 : mk_fs ad g' = mk_fs ad g) (he : ∀ j, j < n + 2 → j ≠ k → mk_e D ad n g' j = mk_e D ad n g j) : va_up (mk_F D f mk ad n g) (ad k) (mk_e D ad n g' k) = mk_F D f mk ad n g' := by
  funext a
  by_cases ha : a = mk
  · subst ha
    rw [va_up_ne _ _ (fun q => (hm.2.1 k hk).2 q.symm), mk_at0, mk_at0, h0]
  · by_cases hb : a = ad k
    · subst hb
      rw [va_up_self, mk_atk hm D f _ hk]
    · rw [va_up_ne _ _ hb]
      simp only [mk_F, if_neg ha]
      cases hq : (List.range (n + 2)).find? (fun k => decide (ad k = a)) with
      | none => rfl
      | some j =>
        have h1 : ad j = a := by simpa using List.find?_some hq
        have hne : j ≠ k := fun q => hb (by rw [← q]; exact h1.symm)
        show mk_e D ad n g j = mk_e D ad n g' j
        rw [he j (List.mem_range.mp (List.mem_of_find?_eq_some hq)) hne]
theorem mk_up0 {D : va_G} {f : Nat → va_E} {mk : Nat} {ad : Nat → Nat} {n : Nat} {g g' : Nat → Int32} (he : ∀ j, j < n + 2 → mk_e D ad n g' j = mk_e D ad n g j) : va_up (mk_F D f mk ad n g) mk (.inr (2, mk_fs ad g')) = mk_F D f mk ad n g' := by
  funext a
  by_cases ha : a = mk
  · simp [va_up, mk_F, ha]
  · simp only [va_up, mk_F, if_neg ha]
    cases hq : (List.range (n + 2)).find? (fun k => decide (ad k = a)) with
    | none => rfl
    | some j => show mk_e D ad n g j = mk_e D ad n g' j; rw [he j (List.mem_range.mp (List.mem_of_find?_eq_some hq))]
abbrev mk_Fi (l : Launch) (y : MethodName) (ws : List Cond) (rm : Room) (D : va_G) (b0 : Nat) (L : List Nat) (f : Nat → va_E) (mk : Nat) (ad : Nat → Nat) (n : Nat) (g : Nat → Int32) (As : List Value) (r : Int32) (g' : Nat → Int32) : Prop := hg_Fi l y ws rm D b0 L (mk_F D f mk ad n g) As r (mk_F D f mk ad n g')
/-- the words of the five kinds of stalls -/
def mk_in (Ts : List Cond) : Prop := (∀ w ∈ wsX00, w ∈ Ts) ∧ (∀ w ∈ wsX20, w ∈ Ts) ∧ (∀ w ∈ wsX40, w ∈ Ts) ∧ (∀ w ∈ wsX70, w ∈ Ts) ∧ (∀ w ∈ wsX100, w ∈ Ts)
section HG
variable {p : Program} {l : Launch} {e : Env} {R : Room} {s : State} {m : MethodId} {args : Array Value} {below : List Frame} {meth : Method} {c : Code} {H : Heap} {locs : List Loc} {cells slots : Nat} {Q : State → Prop}
variable {cc : ByteArray} {nL : Nat} {Ts : List Cond} {own : String} {D : va_G} {b0 : Nat} {L : List Nat} {f : Nat → va_E} {pc : Nat} {ls : Array Slot} {rest st : List Value} {a : Nat} {mk : Nat} {ad : Nat → Nat} {n : Nat} {g : Nat → Int32}
theorem mk_atS (hm : mk_ok L mk ad n) {i : Nat} (hi : i < n) : mk_F D f mk ad n g (ad (2 + i)) = .inr (mk_kc (g (8 + i)), mk_st g i) := by
  rw [mk_atk hm D f g (k := 2 + i) (by omega), Nat.add_comm 2 i]
  rfl
/-- a field of a stall, of whatever kind -/
theorem mk_get (X : hg_C p s m args c cc nL Ts own D b0) (w : hg_W D b0 L (mk_F D f mk ad n g) s.heap H locs) (hm : mk_ok L mk ad n) (hs : mk_sr g n) (hin : mk_in Ts) {i : Nat} (hi : i < n) {index : Nat} {ref : String} (k : Nat) (hk : k < 7) (hlink : Cond.fieldLink own index ref (TX0 k).2.1 (TX0 k).2.2.1 ∈ Ts)
    (hsame : ref = (TX0 k).1 ∨ Cond.sameField ref (TX0 k).1 (TX0 k).2.1 (TX0 k).2.2.1 ∈ Ts) {v : Value} (hv : (mk_st g i)[k]? = some v) (hdg : decode cc pc = .ok (.getfield index, 3))
    (kk : W p l e R s m args below meth c H locs cells slots Q (F0 m (pc + 3) ls (v :: rest))) : W p l e R s m args below meth c H locs cells slots Q (F0 m pc ls (.ref (ad (2 + i)) :: rest)) := by
  have hL := (hm.2.1 (2 + i) (by omega)).1
  have hA := mk_atS (D := D) (f := f) (g := g) hm hi
  rcases hs.2.2.1 i hi with h | h | h | h | h <;> rw [h] at hA
  · exact hg_get (C := RX7) (T := TX7) (N := 7) X w hL hA hin.2.2.2.1 rfl k hk hlink hsame hv hdg kk
  · exact hg_get (C := RX2) (T := TX2) (N := 7) X w hL hA hin.2.1 rfl k hk hlink hsame hv hdg kk
  · exact hg_get (C := RX0) (T := TX0) (N := 7) X w hL hA hin.1 rfl k hk hlink hsame hv hdg kk
  · exact hg_get (C := RX4) (T := TX4) (N := 7) X w hL hA hin.2.2.1 rfl k hk hlink hsame hv hdg kk
  · exact hg_get (C := RX10) (T := TX10) (N := 7) X w hL hA hin.2.2.2.2 rfl k hk hlink hsame hv hdg kk
/-- a field of the market -/
theorem mk_getM (X : hg_C p s m args c cc nL Ts own D b0) (w : hg_W D b0 L (mk_F D f mk ad n g) s.heap H locs) (hm : mk_ok L mk ad n) (hin : ∀ w ∈ wsX30, w ∈ Ts) {index : Nat} (k : Nat) (hk : k < 6) (hlink : Cond.fieldLink own index RX3 (TX3 k).2.1 (TX3 k).2.2.1 ∈ Ts) {v : Value} (hv : (mk_fs ad g)[k]? = some v) (hdg : decode cc pc = .ok (.getfield index, 3))
    (kk : W p l e R s m args below meth c H locs cells slots Q (F0 m (pc + 3) ls (v :: rest))) : W p l e R s m args below meth c H locs cells slots Q (F0 m pc ls (.ref mk :: rest)) :=
  hg_get X w hm.1 (mk_at0 D f mk ad n g) hin rfl k hk hlink (Or.inl (by
    match k, hk with
    | 0, _ | 1, _ | 2, _ | 3, _ | 4, _ | 5, _ => rfl)) hv hdg kk
theorem mk_taut (X : hg_C p s m args c cc nL Ts own D b0) (w : hg_W D b0 L (mk_F D f mk ad n g) s.heap H locs) (hm : mk_ok L mk ad n) {i : Int32} (j : Nat) (hi : i = nI j) (hj : j < 3) (hdg : decode cc pc = .ok (.iaload, 1))
    (kk : W p l e R s m args below meth c H locs cells slots Q (F0 m (pc + 1) ls (.int (g (5 + j)) :: rest))) : W p l e R s m args below meth c H locs cells slots Q (F0 m pc ls (.int i :: .ref (ad 0) :: rest)) := by
  refine hg_iald X w (hm.2.1 0 (by omega)).1 (mk_atk hm D f g (k := 0) (by omega)) j hi hj (by decide) hdg ?_
  rw [mk_ta, if_pos hj]
  exact kk
theorem mk_len (X : hg_C p s m args c cc nL Ts own D b0) (w : hg_W D b0 L (mk_F D f mk ad n g) s.heap H locs) (hm : mk_ok L mk ad n) (hdg : decode cc pc = .ok (.arraylength, 1))
    (kk : W p l e R s m args below meth c H locs cells slots Q (F0 m (pc + 1) ls (.int 6 :: rest))) : W p l e R s m args below meth c H locs cells slots Q (F0 m pc ls (.ref (ad 1) :: rest)) := by
  obtain ⟨⟨hx, hb, hml, hown, hts⟩, hK, hb0⟩ := X
  obtain ⟨q0, hq⟩ := hg_at (hm.2.1 1 (by omega)).1 (mk_atk hm D f g (k := 1) (by omega))
  exact va_alen hx hb hK.1 w.1.1 q0 4 hq rfl rfl hdg kk
/-- a place of the stalls' row: a stall, or none -/
theorem mk_ald (X : hg_C p s m args c cc nL Ts own D b0) (w : hg_W D b0 L (mk_F D f mk ad n g) s.heap H locs) (hm : mk_ok L mk ad n) {i : Int32} (j : Nat) (hi : i = nI j) (hj : j < 6) (hdg : decode cc pc = .ok (.aaload, 1))
    (k1 : j < n → W p l e R s m args below meth c H locs cells slots Q (F0 m (pc + 1) ls (.ref (ad (2 + j)) :: rest))) (k2 : ¬ j < n → W p l e R s m args below meth c H locs cells slots Q (F0 m (pc + 1) ls (.null :: rest))) : W p l e R s m args below meth c H locs cells slots Q (F0 m pc ls (.int i :: .ref (ad 1) :: rest)) := by
  obtain ⟨⟨hx, hb, hml, hown, hts⟩, hK, hb0⟩ := X
  obtain ⟨q0, hq⟩ := hg_at (hm.2.1 1 (by omega)).1 (mk_atk hm D f g (k := 1) (by omega))
  subst hi
  refine va_aldq hx hb hK.1 w.1.1 q0 4 hq rfl (vp_in_nI hj (by decide)) hdg ?_
  rw [nI_clamp (by omega)]
  by_cases h : j < n
  · rw [mk_rr, if_pos h]; exact k1 h
  · rw [mk_rr, if_neg h]; exact k2 h
variable {x y : MethodName} {ws : List Cond} {rm : Room} {bytes : ByteArray} {maxL nn index mc ms : Nat} {ret : Option FieldType} {As : List Value} {owner : String}
/-- a call on a stall: one contract for each kind -/
theorem mk_runU {C : String} {ci : Nat} {q : vw_C} {fs : List Value} {post : Int32 → hg_S → Prop} (X : hg_C p s m args c cc nL Ts own D b0) (w : hg_W D b0 L f s.heap H locs) (hM : hg_Mi l y ws rm D b0 L f (.ref a :: As) post mc ms) (cw : va_CU R s args own C owner index x y bytes maxL ret ws rm mc ms nn)
    (ha : a ∈ L) (hf : f a = .inr (ci, fs)) (hc : vwCl[ci]? = some q) (hq : q.1 = C) (hn : As.length = nn) (hls : ls.size = nL) (hst : st = As.reverse ++ .ref a :: rest) (hW : (rest.map fun v => v.category).sum ≤ 8) (hdg : decode cc pc = .ok (.invokevirtual index, 3)) (hcap : cells + mc ≤ R.cells ∧ slots + ms ≤ R.slots) :
    va_Run p l e R s m args below meth c H locs cells slots mc ms (F0 m pc ls st) rest (va_Qi post (hg_B D b0) (hg_A b0) (Value.ref a :: As).toArray) (hg_A b0) :=
  va_runU X.1 hM cw ⟨hg_blind _ _ _ _ _, hg_recv X w ha hf hc hq, hg_pre X.2.2 X.2.1 w⟩ rfl hn hls hst (lv_room hW) hdg hcap
end HG
theorem mk_weight_eq {g : Nat → Int32} {n i : Nat} (hs : mk_sr g n) (hi : i < n) : (if g (44 + i) = 0 then hs_wares (g (8 + i)) (g (26 + i)) else 0) + hs_buy g i + g (38 + i) = hs_weight g i := by
  unfold hs_weight hs_goods
  rcases hs.2.2.2 i hi with h | h
  · rw [h, if_pos rfl, if_neg (by decide), Int32.add_assoc, Int32.add_comm (hs_buy g i), ← Int32.add_assoc]
  · have e : hs_wares (g (8 + i)) 0 = 0 := by
      unfold hs_wares
      repeat' split
      all_goals decide
    rw [h, if_neg (by decide), if_pos rfl, e, Int32.add_assoc, Int32.add_comm (hs_buy g i), ← Int32.add_assoc]
/-- nr ropes; a rope that is there has a strand, one that isn't has none -/
def mk_t (g : Nat → Int32) (nr : Nat) : Prop := g 2 = nI nr ∧ nr ≤ 3 ∧ (∀ r, r < nr → 1 ≤ g (5 + r)) ∧ ∀ r, nr ≤ r → r < 3 → g (5 + r) = 0
theorem mk_min (x y : Int32) : (if y < x then y else x) = hs_less x y := by
  unfold hs_less
  by_cases h : y < x
  · rw [if_pos h, if_neg]
    rw [Int32.lt_iff_toInt_lt] at h ⊢; omega
  · rw [if_neg h]
    by_cases h2 : x < y
    · rw [if_pos h2]
    · rw [if_neg h2]
      rw [Int32.lt_iff_toInt_lt] at h h2
      exact Int32.toInt_inj.mp (by omega)
theorem mk_max (x y : Int32) : (if x < y then y else x) = hs_far x y := by
  unfold hs_far hs_less
  by_cases h : x < y
  · rw [if_pos h, if_pos h, Int32.add_comm, Int32.add_sub_cancel]
  · rw [if_neg h, if_neg h, Int32.add_sub_cancel]
theorem mk_ok_of {g : Nat → Int32} {n nr : Nat} (hs : mk_sr g n) (ht : mk_t g nr) : hs_ok g n nr := by
  refine ⟨hs.1, hs.2.1, ht.1, ht.2.1, fun r hr q => ?_⟩
  have h := ht.2.2.1 r hr
  rw [q] at h
  exact absurd h (by decide)
