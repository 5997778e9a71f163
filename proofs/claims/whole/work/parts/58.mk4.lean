/-! writing in the market -/
def mk_key (k i : Nat) : Nat := match k with
  | 2 => 20 + i
  | 3 => 26 + i
  | 4 => 32 + i
  | 5 => 38 + i
  | _ => 44 + i
theorem mk_fs_up (ad : Nat → Nat) (g : Nat → Int32) {k : Nat} (v : Int32) (h : 4 ≤ k) : mk_fs ad (va_up g k v) = mk_fs ad g := by
  simp only [mk_fs]
  rw [va_up_ne _ _ (by omega), va_up_ne _ _ (by omega), va_up_ne _ _ (by omega), va_up_ne _ _ (by omega)]
theorem mk_ta_up (g : Nat → Int32) {k : Nat} (v : Int32) (h : k < 5 ∨ 8 ≤ k) : mk_ta (va_up g k v) = mk_ta g := by
  funext j
  simp only [mk_ta]
  by_cases hj : j < 3
  · rw [if_pos hj, if_pos hj, va_up_ne _ _ (by omega)]
  · rw [if_neg hj, if_neg hj]
theorem mk_st_up (g : Nat → Int32) {k i : Nat} (v : Int32) (h : k ≠ 14 + i ∧ k ≠ 20 + i ∧ k ≠ 26 + i ∧ k ≠ 32 + i ∧ k ≠ 38 + i ∧ k ≠ 44 + i) : mk_st (va_up g k v) i = mk_st g i := by
  obtain ⟨h1, h2, h3, h4, h5, h6⟩ := h
  simp only [mk_st]
  rw [va_up_ne _ _ h1.symm, va_up_ne _ _ h2.symm, va_up_ne _ _ h3.symm, va_up_ne _ _ h4.symm, va_up_ne _ _ h5.symm, va_up_ne _ _ h6.symm]
theorem mk_st_set (g : Nat → Int32) {k i : Nat} (v : Int32) (hk : 2 ≤ k ∧ k ≤ 6) (hi : i < 6) : (mk_st g i).set k (.int v) = mk_st (va_up g (mk_key k i) v) i := by
  obtain ⟨h1, h2⟩ := hk
  rcases (show k = 2 ∨ k = 3 ∨ k = 4 ∨ k = 5 ∨ k = 6 by omega) with rfl | rfl | rfl | rfl | rfl <;>
    (simp only [mk_st, mk_key, va_up]; simp; try omega)
theorem mk_e_up {D : va_G} {ad : Nat → Nat} {n : Nat} {g : Nat → Int32} {k i : Nat} (v : Int32) (hk : 2 ≤ k ∧ k ≤ 6) (hn : n ≤ 6) (hi : i < n) : ∀ j, j < n + 2 → j ≠ 2 + i → mk_e D ad n (va_up g (mk_key k i) v) j = mk_e D ad n g j := by
  obtain ⟨h1, h2⟩ := hk
  intro j hj hne
  match j with
  | 0 => show Sum.inl _ = Sum.inl _; rw [mk_ta_up _ _ (by rcases (show k = 2 ∨ k = 3 ∨ k = 4 ∨ k = 5 ∨ k = 6 by omega) with rfl | rfl | rfl | rfl | rfl <;> simp only [mk_key] <;> omega)]
  | 1 => rfl
  | q + 2 =>
    show Sum.inr (mk_kc _, mk_st _ q) = Sum.inr (mk_kc _, mk_st g q)
    have hq : q ≠ i := by omega
    rw [mk_st_up _ _ (by rcases (show k = 2 ∨ k = 3 ∨ k = 4 ∨ k = 5 ∨ k = 6 by omega) with rfl | rfl | rfl | rfl | rfl <;> simp only [mk_key] <;> omega), va_up_ne _ _ (by rcases (show k = 2 ∨ k = 3 ∨ k = 4 ∨ k = 5 ∨ k = 6 by omega) with rfl | rfl | rfl | rfl | rfl <;> simp only [mk_key] <;> omega)]
section HG
variable {p : Program} {l : Launch} {e : Env} {R : Room} {s : State} {m : MethodId} {args : Array Value} {below : List Frame} {meth : Method} {c : Code} {H : Heap} {locs : List Loc} {cells slots : Nat} {Q : State → Prop}
variable {cc : ByteArray} {nL : Nat} {Ts : List Cond} {own : String} {D : va_G} {b0 : Nat} {L : List Nat} {f : Nat → va_E} {pc : Nat} {ls : Array Slot} {rest st : List Value} {a : Nat} {mk : Nat} {ad : Nat → Nat} {n : Nat} {g : Nat → Int32}
theorem mk_upS (hm : mk_ok L mk ad n) (hn : n ≤ 6) {k i : Nat} (v : Int32) (hk : 2 ≤ k ∧ k ≤ 6) (hi : i < n) : va_up (mk_F D f mk ad n g) (ad (2 + i)) (.inr (mk_kc (g (8 + i)), (mk_st g i).set k (.int v))) = mk_F D f mk ad n (va_up g (mk_key k i) v) := by
  have h8 : va_up g (mk_key k i) v (8 + i) = g (8 + i) := va_up_ne _ _ (by
    obtain ⟨h1, h2⟩ := hk
    rcases (show k = 2 ∨ k = 3 ∨ k = 4 ∨ k = 5 ∨ k = 6 by omega) with rfl | rfl | rfl | rfl | rfl <;> simp only [mk_key] <;> omega)
  have he : (Sum.inr (mk_kc (g (8 + i)), (mk_st g i).set k (.int v)) : va_E) = mk_e D ad n (va_up g (mk_key k i) v) (2 + i) := by
    rw [mk_st_set g v hk (by omega), Nat.add_comm 2 i]
    show _ = Sum.inr (mk_kc (va_up g (mk_key k i) v (8 + i)), _)
    rw [h8]
  rw [he]
  exact mk_upk hm (by omega) (mk_fs_up ad g v (by
    obtain ⟨h1, h2⟩ := hk
    rcases (show k = 2 ∨ k = 3 ∨ k = 4 ∨ k = 5 ∨ k = 6 by omega) with rfl | rfl | rfl | rfl | rfl <;> simp only [mk_key] <;> omega)) (mk_e_up v hk hn hi)
/-- a stall's number set -/
theorem mk_put (X : hg_C p s m args c cc nL Ts own D b0) (w : hg_W D b0 L (mk_F D f mk ad n g) s.heap H locs) (hm : mk_ok L mk ad n) (hs : mk_sr g n) (hin : mk_in Ts) {i : Nat} (hi : i < n) {index : Nat} (k : Nat) (hk : 2 ≤ k ∧ k ≤ 6) (hlink : Cond.fieldLink own index "HungStalls$Stall" (TX0 k).2.1 (TX0 k).2.2.1 ∈ Ts)
    {v : Int32} (hnar : k = 6 → v = 0 ∨ v = 1) (hdg : decode cc pc = .ok (.putfield index, 3))
    (kk : ∀ (H1 : Heap) (locs1 : List Loc), hg_W D b0 L (mk_F D f mk ad n (va_up g (mk_key k i) v)) s.heap H1 locs1 → W p l e R s m args below meth c H1 locs1 cells slots Q (F0 m (pc + 3) ls rest)) : W p l e R s m args below meth c H locs cells slots Q (F0 m pc ls (.int v :: .ref (ad (2 + i)) :: rest)) := by
  have hL := (hm.2.1 (2 + i) (by omega)).1
  have hA := mk_atS (D := D) (f := f) (g := g) hm hi
  have hU := mk_upS (D := D) (f := f) (g := g) hm hs.2.1 v hk hi
  obtain ⟨h1, h2⟩ := hk
  have h7 : k < 7 := by omega
  rcases hs.2.2.1 i hi with h | h | h | h | h <;> rw [h] at hA hU <;>
    (first
      | refine hg_put (C := RX7) (T := TX7) (N := 7) (ty0 := tyX7) (ci := 5) X w hL hA hin.2.2.2.1 tyX7_ok nmX7 rfl k h7 hlink (Or.inl ?_) ?_ ?_ ?_ h7 hdg (fun H1 locs1 w1 => kk H1 locs1 (by rw [← hU]; exact w1))
      | refine hg_put (C := RX2) (T := TX2) (N := 7) (ty0 := tyX2) (ci := 1) X w hL hA hin.2.1 tyX2_ok nmX2 rfl k h7 hlink (Or.inl ?_) ?_ ?_ ?_ h7 hdg (fun H1 locs1 w1 => kk H1 locs1 (by rw [← hU]; exact w1))
      | refine hg_put (C := RX0) (T := TX0) (N := 7) (ty0 := tyX0) (ci := 0) X w hL hA hin.1 tyX0_ok nmX0 rfl k h7 hlink (Or.inl ?_) ?_ ?_ ?_ h7 hdg (fun H1 locs1 w1 => kk H1 locs1 (by rw [← hU]; exact w1))
      | refine hg_put (C := RX4) (T := TX4) (N := 7) (ty0 := tyX4) (ci := 3) X w hL hA hin.2.2.1 tyX4_ok nmX4 rfl k h7 hlink (Or.inl ?_) ?_ ?_ ?_ h7 hdg (fun H1 locs1 w1 => kk H1 locs1 (by rw [← hU]; exact w1))
      | refine hg_put (C := RX10) (T := TX10) (N := 7) (ty0 := tyX10) (ci := 8) X w hL hA hin.2.2.2.2 tyX10_ok nmX10 rfl k h7 hlink (Or.inl ?_) ?_ ?_ ?_ h7 hdg (fun H1 locs1 w1 => kk H1 locs1 (by rw [← hU]; exact w1))) <;>
    (rcases (show k = 2 ∨ k = 3 ∨ k = 4 ∨ k = 5 ∨ k = 6 by omega) with rfl | rfl | rfl | rfl | rfl <;> first | rfl | (rcases hnar rfl with q | q <;> rw [q] <;> rfl))
/-- a rope's strands set -/
theorem mk_tast (X : hg_C p s m args c cc nL Ts own D b0) (w : hg_W D b0 L (mk_F D f mk ad n g) s.heap H locs) (hm : mk_ok L mk ad n) {i v : Int32} (j : Nat) (hi : i = nI j) (hj : j < 3) (hdg : decode cc pc = .ok (.iastore, 1))
    (kk : ∀ (H1 : Heap) (locs1 : List Loc), hg_W D b0 L (mk_F D f mk ad n (va_up g (5 + j) v)) s.heap H1 locs1 → W p l e R s m args below meth c H1 locs1 cells slots Q (F0 m (pc + 1) ls rest)) : W p l e R s m args below meth c H locs cells slots Q (F0 m pc ls (.int v :: .int i :: .ref (ad 0) :: rest)) := by
  refine hg_iast X w (hm.2.1 0 (by omega)).1 (mk_atk hm D f g (k := 0) (by omega)) j hi hj (by decide) hdg (fun H1 locs1 w1 => kk H1 locs1 ?_)
  have e1 : va_up (mk_ta g) j v = mk_ta (va_up g (5 + j) v) := by
    funext q
    simp only [mk_ta, va_up]
    by_cases hq : q = j
    · subst hq; rw [if_pos rfl, if_pos hj, if_pos rfl]
    · rw [if_neg hq]
      by_cases h3 : q < 3
      · rw [if_pos h3, if_pos h3, if_neg (by omega)]
      · rw [if_neg h3, if_neg h3]
  rw [e1] at w1
  have e2 : va_up (mk_F D f mk ad n g) (ad 0) (mk_e D ad n (va_up g (5 + j) v) 0) = mk_F D f mk ad n (va_up g (5 + j) v) :=
    mk_upk hm (by omega) (mk_fs_up ad g v (by omega)) (fun q hq hne => by
      match q with
      | 0 => exact absurd rfl hne
      | 1 => rfl
      | q + 2 =>
        show Sum.inr (mk_kc _, mk_st _ q) = Sum.inr (mk_kc _, mk_st g q)
        rw [mk_st_up _ _ (by omega), va_up_ne _ _ (by omega)])
  rw [← e2]
  exact w1
/-- the slack set -/
theorem mk_putM (X : hg_C p s m args c cc nL Ts own D b0) (w : hg_W D b0 L (mk_F D f mk ad n g) s.heap H locs) (hm : mk_ok L mk ad n) (hin : ∀ w ∈ wsX30, w ∈ Ts) {index : Nat} (hlink : Cond.fieldLink own index RX3 "slack" "I" ∈ Ts) {v : Int32} (hdg : decode cc pc = .ok (.putfield index, 3))
    (kk : ∀ (H1 : Heap) (locs1 : List Loc), hg_W D b0 L (mk_F D f mk ad n (va_up g 1 v)) s.heap H1 locs1 → W p l e R s m args below meth c H1 locs1 cells slots Q (F0 m (pc + 3) ls rest)) : W p l e R s m args below meth c H locs cells slots Q (F0 m pc ls (.int v :: .ref mk :: rest)) := by
  refine hg_put (C := RX3) (T := TX3) (N := 6) (ty0 := tyX3) (ci := 2) X w hm.1 (mk_at0 D f mk ad n g) hin tyX3_ok nmX3 rfl 1 (by decide) hlink (Or.inl rfl) rfl rfl rfl (by show 1 < 6; decide) hdg (fun H1 locs1 w1 => kk H1 locs1 ?_)
  have e1 : (mk_fs ad g).set 1 (.int v) = mk_fs ad (va_up g 1 v) := rfl
  rw [e1, mk_up0 (fun q hq => by
    match q with
    | 0 => show Sum.inl _ = Sum.inl _; rw [mk_ta_up _ _ (by omega)]
    | 1 => rfl
    | q + 2 =>
      show Sum.inr (mk_kc _, mk_st _ q) = Sum.inr (mk_kc _, mk_st g q)
      rw [mk_st_up _ _ (by omega), va_up_ne _ _ (by omega)])] at w1
  exact w1
end HG
theorem mk_sr_up {g : Nat → Int32} {n k : Nat} {v : Int32} (hk : k < 3 ∨ (3 < k ∧ k < 8) ∨ (14 ≤ k ∧ k < 44)) (h : mk_sr g n) : mk_sr (va_up g k v) n := by
  obtain ⟨h1, h2, h3, h4⟩ := h
  refine ⟨?_, h2, fun i hi => ?_, fun i hi => ?_⟩
  · rw [va_up_ne _ _ (by omega)]; exact h1
  · rw [va_up_ne _ _ (by omega)]; exact h3 i hi
  · rw [va_up_ne _ _ (by omega)]; exact h4 i hi
theorem mk_sr_off {g : Nat → Int32} {n k : Nat} {v : Int32} (hk : 44 ≤ k) (hv : v = 0 ∨ v = 1) (h : mk_sr g n) : mk_sr (va_up g k v) n := by
  obtain ⟨h1, h2, h3, h4⟩ := h
  refine ⟨?_, h2, fun i hi => ?_, fun i hi => ?_⟩
  · rw [va_up_ne _ _ (by omega)]; exact h1
  · rw [va_up_ne _ _ (by omega)]; exact h3 i hi
  · by_cases e : 44 + i = k
    · rw [← e, va_up_self]; exact hv
    · rw [va_up_ne _ _ e]; exact h4 i hi
theorem mk_t_up {g : Nat → Int32} {nr k : Nat} {v : Int32} (hk : k < 2 ∨ (2 < k ∧ k < 5) ∨ 8 ≤ k) (h : mk_t g nr) : mk_t (va_up g k v) nr := by
  obtain ⟨h1, h2, h3, h4⟩ := h
  refine ⟨?_, h2, fun r hr => ?_, fun r hr hr3 => ?_⟩
  · rw [va_up_ne _ _ (by omega)]; exact h1
  · rw [va_up_ne _ _ (by omega)]; exact h3 r hr
  · rw [va_up_ne _ _ (by omega)]; exact h4 r hr hr3
theorem mk_t_ta {g : Nat → Int32} {nr r : Nat} {v : Int32} (hr : r < nr) (hv : 1 ≤ v) (h : mk_t g nr) : mk_t (va_up g (5 + r) v) nr := by
  obtain ⟨h1, h2, h3, h4⟩ := h
  refine ⟨?_, h2, fun q hq => ?_, fun q hq hq3 => ?_⟩
  · rw [va_up_ne _ _ (by omega)]; exact h1
  · by_cases e : 5 + q = 5 + r
    · rw [e, va_up_self]; exact hv
    · rw [va_up_ne _ _ e]; exact h3 q hq
  · rw [va_up_ne _ _ (by omega)]; exact h4 q hq hq3
/-- what an act changes -/
def mk_pt (g : Nat → Int32) (i : Nat) (what v : Int32) : Nat → Int32 := if what = 0 then va_up g (32 + i) v else if what = 1 then va_up g (38 + i) v else if what = 2 then va_up g (20 + i) v else if what = 3 then va_up g (44 + i) (if v = 1 then 1 else 0) else g
def mk_pm (g : Nat → Int32) (n : Nat) (what one v : Int32) : Nat → Int32 :=
  if what = 4 then va_up g 1 v else if what = 5 then (if one < 0 ∨ 3 ≤ one then g else va_up g (5 + one.toNatClampNeg) v) else if one < 0 ∨ 6 ≤ one ∨ n ≤ one.toNatClampNeg then g else mk_pt g one.toNatClampNeg what v
theorem mk_pm_a {g : Nat → Int32} {n j : Nat} {what v : Int32} (h4 : ¬ what = 4) (h5 : ¬ what = 5) (h6 : j < 6) (hj : j < n) : mk_pm g n what (nI j) v = mk_pt g j what v := by
  have e : (nI j).toNatClampNeg = j := nI_clamp (by omega)
  unfold mk_pm
  rw [if_neg h4, if_neg h5, if_neg (by
    rintro (q | q | q)
    · exact absurd q (nI_pos (n := j) (by omega))
    · exact absurd ((nI_ltI (b := 6) (by omega) (by decide)).mpr h6) (Int32.not_lt.mpr q)
    · omega), e]
theorem mk_pm_n {g : Nat → Int32} {n j : Nat} {what v : Int32} (h4 : ¬ what = 4) (h5 : ¬ what = 5) (h6 : j < 6) (hj : ¬ j < n) : mk_pm g n what (nI j) v = g := by
  have e : (nI j).toNatClampNeg = j := nI_clamp (by omega)
  unfold mk_pm
  rw [if_neg h4, if_neg h5, if_pos (Or.inr (Or.inr (by omega)))]
theorem mk_pm_5 {g : Nat → Int32} {n j : Nat} {what v : Int32} (h5 : what = 5) (h6 : j < 3) : mk_pm g n what (nI j) v = va_up g (5 + j) v := by
  have e : (nI j).toNatClampNeg = j := nI_clamp (by omega)
  subst h5
  unfold mk_pm
  rw [if_neg (by decide), if_pos rfl, if_neg (by
    rintro (q | q)
    · exact absurd q (nI_pos (n := j) (by omega))
    · exact absurd ((nI_ltI (b := 3) (by omega) (by decide)).mpr h6) (Int32.not_lt.mpr q)), e]
section HG
variable {p : Program} {l : Launch} {e : Env} {R : Room} {s : State} {m : MethodId} {args : Array Value} {below : List Frame} {meth : Method} {c : Code} {H : Heap} {locs : List Loc} {cells slots : Nat} {Q : State → Prop}
variable {cc : ByteArray} {nL : Nat} {Ts : List Cond} {own : String} {D : va_G} {b0 : Nat} {L : List Nat} {f : Nat → va_E} {pc : Nat} {ls : Array Slot} {rest st : List Value} {a : Nat}
variable {x y : MethodName} {ws : List Cond} {rm : Room} {bytes : ByteArray} {maxL nn index mc ms : Nat} {ret : Option FieldType} {As : List Value} {owner : String}
theorem mk_runUv {C : String} {ci : Nat} {q : vw_C} {fs : List Value} {post : hg_S → Prop} (X : hg_C p s m args c cc nL Ts own D b0) (w : hg_W D b0 L f s.heap H locs) (hM : hg_Mv l y ws rm D b0 L f (.ref a :: As) post mc ms) (cw : va_CU R s args own C owner index x y bytes maxL ret ws rm mc ms nn)
    (ha : a ∈ L) (hf : f a = .inr (ci, fs)) (hc : vwCl[ci]? = some q) (hq : q.1 = C) (hn : As.length = nn) (hls : ls.size = nL) (hst : st = As.reverse ++ .ref a :: rest) (hW : (rest.map fun v => v.category).sum ≤ 8) (hdg : decode cc pc = .ok (.invokevirtual index, 3)) (hcap : cells + mc ≤ R.cells ∧ slots + ms ≤ R.slots) :
    va_Run p l e R s m args below meth c H locs cells slots mc ms (F0 m pc ls st) rest (va_Qv post (hg_B D b0) (hg_A b0) (Value.ref a :: As).toArray) (hg_A b0) :=
  va_runU X.1 hM cw ⟨hg_blind _ _ _ _ _, hg_recv X w ha hf hc hq, hg_pre X.2.2 X.2.1 w⟩ rfl hn hls hst (lv_room hW) hdg hcap
theorem mk_runUq {C : String} {ci : Nat} {q : vw_C} {fs : List Value} {post : Option Nat → hg_S → Prop} (X : hg_C p s m args c cc nL Ts own D b0) (w : hg_W D b0 L f s.heap H locs) (hM : hg_Mq l y ws rm D b0 L f (.ref a :: As) post mc ms) (cw : va_CU R s args own C owner index x y bytes maxL ret ws rm mc ms nn)
    (ha : a ∈ L) (hf : f a = .inr (ci, fs)) (hc : vwCl[ci]? = some q) (hq : q.1 = C) (hn : As.length = nn) (hls : ls.size = nL) (hst : st = As.reverse ++ .ref a :: rest) (hW : (rest.map fun v => v.category).sum ≤ 8) (hdg : decode cc pc = .ok (.invokevirtual index, 3)) (hcap : cells + mc ≤ R.cells ∧ slots + ms ≤ R.slots) :
    va_Run p l e R s m args below meth c H locs cells slots mc ms (F0 m pc ls st) rest (va_Qq post (hg_B D b0) (hg_A b0) (Value.ref a :: As).toArray) (hg_A b0) :=
  va_runU X.1 hM cw ⟨hg_blind _ _ _ _ _, hg_recv X w ha hf hc hq, hg_pre X.2.2 X.2.1 w⟩ rfl hn hls hst (lv_room hW) hdg hcap
end HG
