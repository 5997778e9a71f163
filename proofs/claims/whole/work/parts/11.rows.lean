section HG
variable {p : Program} {l : Launch} {e : Env} {R : Room} {s : State} {m : MethodId} {args : Array Value} {below : List Frame} {meth : Method} {c : Code} {H : Heap} {locs : List Loc} {cells slots : Nat} {Q : State → Prop}
variable {cc : ByteArray} {nL : Nat} {Ts : List Cond} {own : String} {D : va_G} {b0 : Nat} {L : List Nat} {f : Nat → va_E} {pc : Nat} {ls : Array Slot} {rest st : List Value} {a : Nat}
theorem hg_get (X : hg_C p s m args c cc nL Ts own D b0) (w : hg_W D b0 L f s.heap H locs) {ref C : String} {T : u_T} {N ci index : Nat} {fs : List Value} (ha : a ∈ L) (hf : f a = .inr (ci, fs)) (hin : ∀ w ∈ u_ws C T N, w ∈ Ts) (hc : vwCl[ci]? = some (C, T, N)) (k : Nat) (hk : k < N) (hlink : Cond.fieldLink own index ref (T k).2.1 (T k).2.2.1 ∈ Ts)
    (hsame : ref = (T k).1 ∨ Cond.sameField ref (T k).1 (T k).2.1 (T k).2.2.1 ∈ Ts) {v : Value} (hv : fs[k]? = some v) (hdg : decode cc pc = .ok (.getfield index, 3))
    (kk : W p l e R s m args below meth c H locs cells slots Q (F0 m (pc + 3) ls (v :: rest))) : W p l e R s m args below meth c H locs cells slots Q (F0 m pc ls (.ref a :: rest)) := by
  obtain ⟨⟨hx, hb, hml, hown, hts⟩, hK, hb0⟩ := X
  obtain ⟨q0, hq⟩ := hg_at ha hf
  refine va_get (C := C) (T := T) (N := N) hx hb hts hin hown hK.1 w.1.1 q0 hq hc k hk (hts _ hlink) (fun x h9 => ?_) hv hdg kk
  rcases hsame with rfl | h
  · exact h9
  · exact u_same (hts _ h) x h9
theorem hg_put (X : hg_C p s m args c cc nL Ts own D b0) (w : hg_W D b0 L f s.heap H locs) {ref C : String} {T : u_T} {N ci index : Nat} {fs : List Value} (ha : a ∈ L) (hf : f a = .inr (ci, fs)) (hin : ∀ w ∈ u_ws C T N, w ∈ Ts) {ty0 : Nat → FieldType} (hty : ∀ k, k < N → parseFieldDescriptor (T k).2.2.1 = some (ty0 k)) (hnm : ∀ a, a < N → ∀ b, b < N → a ≠ b → (T a).2.1 ≠ (T b).2.1) (hc : vwCl[ci]? = some (C, T, N)) (k : Nat) (hk : k < N) (hlink : Cond.fieldLink own index ref (T k).2.1 (T k).2.2.1 ∈ Ts)
    (hsame : ref = (T k).1 ∨ Cond.sameField ref (T k).1 (T k).2.1 (T k).2.2.1 ∈ Ts) (hfin : (T k).2.2.2 = false) {v : Value} (hn : narrow (ty0 k) v = v) (hfit : fits (ty0 k) v = true) (hl : k < fs.length) (hdg : decode cc pc = .ok (.putfield index, 3))
    (kk : ∀ (H1 : Heap) (locs1 : List Loc), hg_W D b0 L (va_up f a (.inr (ci, fs.set k v))) s.heap H1 locs1 → W p l e R s m args below meth c H1 locs1 cells slots Q (F0 m (pc + 3) ls rest)) : W p l e R s m args below meth c H locs cells slots Q (F0 m pc ls (v :: .ref a :: rest)) := by
  obtain ⟨⟨hx, hb, hml, hown, hts⟩, hK, hb0⟩ := X
  obtain ⟨q0, hq⟩ := hg_at ha hf
  refine va_put (C := C) (T := T) (N := N) hx hb hts hin ty0 hty hnm hown hK.1 w.1.1 w.1.2 w.2 q0 hq hc k hk (hts _ hlink) (fun x h9 => ?_) hfin (hty k hk) hn hfit hl hdg (fun H1 locs1 h1 h2 h3 => ?_)
  · rcases hsame with rfl | h
    · exact h9
    · exact u_same (hts _ h) x h9
  · rw [hg_up w.1.2 ha hq] at h1 h2
    exact kk H1 locs1 ⟨⟨h1, h2⟩, h3⟩
theorem hg_putF (X : hg_C p s m args c cc nL Ts own D b0) (w : hg_W D b0 L f s.heap H locs) {C : String} {T : u_T} {N ci index : Nat} {fs : List Value} (ha : a ∈ L) (hf : f a = .inr (ci, fs)) (hin : ∀ w ∈ u_ws C T N, w ∈ Ts) {ty0 : Nat → FieldType} (hty : ∀ k, k < N → parseFieldDescriptor (T k).2.2.1 = some (ty0 k)) (hnm : ∀ a, a < N → ∀ b, b < N → a ≠ b → (T a).2.1 ≠ (T b).2.1) (hc : vwCl[ci]? = some (C, T, N)) (k : Nat) (hk : k < N) (hlink : Cond.fieldLink own index (T k).1 (T k).2.1 (T k).2.2.1 ∈ Ts)
    (hfin : (T k).2.2.2 = true) (hmn : meth.name = "<init>") (hdecl : (T k).1 = own) {v : Value} (hn : narrow (ty0 k) v = v) (hfit : fits (ty0 k) v = true) (hl : k < fs.length) (hdg : decode cc pc = .ok (.putfield index, 3))
    (kk : ∀ (H1 : Heap) (locs1 : List Loc), hg_W D b0 L (va_up f a (.inr (ci, fs.set k v))) s.heap H1 locs1 → W p l e R s m args below meth c H1 locs1 cells slots Q (F0 m (pc + 3) ls rest)) : W p l e R s m args below meth c H locs cells slots Q (F0 m pc ls (v :: .ref a :: rest)) := by
  obtain ⟨⟨hx, hb, hml, hown, hts⟩, hK, hb0⟩ := X
  obtain ⟨q0, hq⟩ := hg_at ha hf
  refine va_putF (C := C) (T := T) (N := N) hx hb hts hin ty0 hty hnm hown hK.1 w.1.1 w.1.2 w.2 q0 hq hc k hk (hts _ hlink) (fun x h9 => h9) hfin hmn hdecl (hty k hk) hn hfit hl hdg (fun H1 locs1 h1 h2 h3 => ?_)
  rw [hg_up w.1.2 ha hq] at h1 h2
  exact kk H1 locs1 ⟨⟨h1, h2⟩, h3⟩
theorem hg_iald (X : hg_C p s m args c cc nL Ts own D b0) (w : hg_W D b0 L f s.heap H locs) {n : Nat} {g : Nat → Int32} (ha : a ∈ L) (hf : f a = .inl (D.1 11, n, .inl g)) {i : Int32} (j : Nat) (hi : i = nI j) (hj : j < n) (hn : n < 2 ^ 31) (hdg : decode cc pc = .ok (.iaload, 1))
    (kk : W p l e R s m args below meth c H locs cells slots Q (F0 m (pc + 1) ls (.int (g j) :: rest))) : W p l e R s m args below meth c H locs cells slots Q (F0 m pc ls (.int i :: .ref a :: rest)) := by
  obtain ⟨⟨hx, hb, hml, hown, hts⟩, hK, hb0⟩ := X
  obtain ⟨q0, hq⟩ := hg_at ha hf
  subst hi
  refine va_iald hx hb hK.1 w.1.1 q0 0 hq rfl (vp_in_nI hj hn) hdg ?_
  rw [nI_clamp (Nat.lt_trans hj hn)]
  exact kk
theorem hg_iast (X : hg_C p s m args c cc nL Ts own D b0) (w : hg_W D b0 L f s.heap H locs) {n : Nat} {g : Nat → Int32} (ha : a ∈ L) (hf : f a = .inl (D.1 11, n, .inl g)) {i v : Int32} (j : Nat) (hi : i = nI j) (hj : j < n) (hn : n < 2 ^ 31) (hdg : decode cc pc = .ok (.iastore, 1))
    (kk : ∀ (H1 : Heap) (locs1 : List Loc), hg_W D b0 L (va_up f a (.inl (D.1 11, n, .inl (va_up g j v)))) s.heap H1 locs1 → W p l e R s m args below meth c H1 locs1 cells slots Q (F0 m (pc + 1) ls rest)) : W p l e R s m args below meth c H locs cells slots Q (F0 m pc ls (.int v :: .int i :: .ref a :: rest)) := by
  obtain ⟨⟨hx, hb, hml, hown, hts⟩, hK, hb0⟩ := X
  obtain ⟨q0, hq⟩ := hg_at ha hf
  subst hi
  refine va_iast hx hb hK.1 w.1.1 w.1.2 w.2 q0 0 hq rfl (vp_in_nI hj hn) hdg (fun H1 locs1 h1 h2 h3 => ?_)
  rw [nI_clamp (Nat.lt_trans hj hn)] at h1 h2
  have hu : upd g j v = va_up g j v := rfl
  rw [hu, hg_up w.1.2 ha hq] at h1 h2
  exact kk H1 locs1 ⟨⟨h1, h2⟩, h3⟩
theorem hg_alen (X : hg_C p s m args c cc nL Ts own D b0) (w : hg_W D b0 L f s.heap H locs) {n : Nat} {g : Nat → Int32} (ha : a ∈ L) (hf : f a = .inl (D.1 11, n, .inl g)) (hdg : decode cc pc = .ok (.arraylength, 1))
    (kk : W p l e R s m args below meth c H locs cells slots Q (F0 m (pc + 1) ls (.int (nI n) :: rest))) : W p l e R s m args below meth c H locs cells slots Q (F0 m pc ls (.ref a :: rest)) := by
  obtain ⟨⟨hx, hb, hml, hown, hts⟩, hK, hb0⟩ := X
  obtain ⟨q0, hq⟩ := hg_at ha hf
  exact va_alen hx hb hK.1 w.1.1 q0 0 hq rfl rfl hdg kk
/-- calls -/
theorem hg_back {post : Int32 → hg_S → Prop} {mc ms : Nat} {ar : Array Value} (w : hg_W D b0 L f s.heap H locs)
    (hr : va_Run p l e R s m args below meth c H locs cells slots mc ms (F0 m pc ls st) rest (va_Qi post (hg_B D b0) (hg_A b0) ar) (hg_A b0))
    (kk : ∀ (r : Int32) (u : hg_S) (H1 : Heap) (locs1 : List Loc), post r u → hg_W D b0 u.1 u.2 s.heap H1 locs1 → W p l e R s m args below meth c H1 locs1 (cells + mc) (slots + ms) Q (F0 m (pc + 3) ls (.int r :: rest))) : W p l e R s m args below meth c H locs cells slots Q (F0 m pc ls st) :=
  va_calli hr w.2 (fun _ _ h => h) (fun _ h => h) (fun r u t H1 locs1 ht _ hp hB _ _ hS => kk r u H1 locs1 hp ⟨by rw [← ht]; exact hB, hS⟩)
theorem hg_backv {post : hg_S → Prop} {mc ms : Nat} {ar : Array Value} (w : hg_W D b0 L f s.heap H locs)
    (hr : va_Run p l e R s m args below meth c H locs cells slots mc ms (F0 m pc ls st) rest (va_Qv post (hg_B D b0) (hg_A b0) ar) (hg_A b0))
    (kk : ∀ (u : hg_S) (H1 : Heap) (locs1 : List Loc), post u → hg_W D b0 u.1 u.2 s.heap H1 locs1 → W p l e R s m args below meth c H1 locs1 (cells + mc) (slots + ms) Q (F0 m (pc + 3) ls rest)) : W p l e R s m args below meth c H locs cells slots Q (F0 m pc ls st) :=
  va_callv hr w.2 (fun _ _ h => h) (fun _ h => h) (fun u t H1 locs1 ht _ hp hB _ _ hS => kk u H1 locs1 hp ⟨by rw [← ht]; exact hB, hS⟩)
theorem hg_backq {post : Option Nat → hg_S → Prop} {mc ms : Nat} {ar : Array Value} (w : hg_W D b0 L f s.heap H locs)
    (hr : va_Run p l e R s m args below meth c H locs cells slots mc ms (F0 m pc ls st) rest (va_Qq post (hg_B D b0) (hg_A b0) ar) (hg_A b0))
    (kk : ∀ (r : Option Nat) (u : hg_S) (H1 : Heap) (locs1 : List Loc), post r u → hg_W D b0 u.1 u.2 s.heap H1 locs1 → W p l e R s m args below meth c H1 locs1 (cells + mc) (slots + ms) Q (F0 m (pc + 3) ls (va_rf r :: rest))) : W p l e R s m args below meth c H locs cells slots Q (F0 m pc ls st) :=
  va_callq hr w.2 (fun _ _ h => h) (fun _ h => h) (fun r u t H1 locs1 ht _ hp hB _ _ hS => kk r u H1 locs1 hp ⟨by rw [← ht]; exact hB, hS⟩)
variable {y : MethodName} {ws : List Cond} {rm : Room} {bytes : ByteArray} {maxL n index mc ms : Nat} {ret : Option FieldType} {As : List Value} {Cn : String} {q : vw_C} {ci : Nat} {fs : List Value}
theorem hg_recv (X : hg_C p s m args c cc nL Ts own D b0) (w : hg_W D b0 L f s.heap H locs) (ha : a ∈ L) (hf : f a = .inr (ci, fs)) (hc : vwCl[ci]? = some q) (hq : q.1 = Cn) : ∃ cellB : Cell, H[a]? = some cellB ∧ cellB.vm.isStatics = false ∧ s.vm.findClass Cn = some cellB.cls := by
  obtain ⟨q0, h0⟩ := hg_at ha hf
  rw [← hq]
  exact va_recv X.2.1.1 w.1.1 hc h0
/-- invokevirtual -/
theorem hg_vi {post : Int32 → hg_S → Prop} (X : hg_C p s m args c cc nL Ts own D b0) (w : hg_W D b0 L f s.heap H locs) (hM : hg_Mi l y ws rm D b0 L f (.ref a :: As) post mc ms) (cw : CallW R s args own Cn index y bytes maxL ret ws rm mc ms n)
    (ha : a ∈ L) (hf : f a = .inr (ci, fs)) (hc : vwCl[ci]? = some q) (hq : q.1 = Cn) (hn : As.length = n) (hls : ls.size = nL) (hst : st = As.reverse ++ .ref a :: rest) (hW : (rest.map fun v => v.category).sum ≤ 8) (hdg : decode cc pc = .ok (.invokevirtual index, 3)) (hcap : cells + mc ≤ R.cells ∧ slots + ms ≤ R.slots)
    (kk : ∀ (r : Int32) (u : hg_S) (H1 : Heap) (locs1 : List Loc), post r u → hg_W D b0 u.1 u.2 s.heap H1 locs1 → W p l e R s m args below meth c H1 locs1 (cells + mc) (slots + ms) Q (F0 m (pc + 3) ls (.int r :: rest))) : W p l e R s m args below meth c H locs cells slots Q (F0 m pc ls st) :=
  hg_back w (va_runV X.1 hM cw ⟨hg_blind _ _ _ _ _, hg_recv X w ha hf hc hq, hg_pre X.2.2 X.2.1 w⟩ rfl hn hls hst (lv_room hW) hdg hcap) kk
theorem hg_vv {post : hg_S → Prop} (X : hg_C p s m args c cc nL Ts own D b0) (w : hg_W D b0 L f s.heap H locs) (hM : hg_Mv l y ws rm D b0 L f (.ref a :: As) post mc ms) (cw : CallW R s args own Cn index y bytes maxL ret ws rm mc ms n)
    (ha : a ∈ L) (hf : f a = .inr (ci, fs)) (hc : vwCl[ci]? = some q) (hq : q.1 = Cn) (hn : As.length = n) (hls : ls.size = nL) (hst : st = As.reverse ++ .ref a :: rest) (hW : (rest.map fun v => v.category).sum ≤ 8) (hdg : decode cc pc = .ok (.invokevirtual index, 3)) (hcap : cells + mc ≤ R.cells ∧ slots + ms ≤ R.slots)
    (kk : ∀ (u : hg_S) (H1 : Heap) (locs1 : List Loc), post u → hg_W D b0 u.1 u.2 s.heap H1 locs1 → W p l e R s m args below meth c H1 locs1 (cells + mc) (slots + ms) Q (F0 m (pc + 3) ls rest)) : W p l e R s m args below meth c H locs cells slots Q (F0 m pc ls st) :=
  hg_backv w (va_runV X.1 hM cw ⟨hg_blind _ _ _ _ _, hg_recv X w ha hf hc hq, hg_pre X.2.2 X.2.1 w⟩ rfl hn hls hst (lv_room hW) hdg hcap) kk
theorem hg_vq {post : Option Nat → hg_S → Prop} (X : hg_C p s m args c cc nL Ts own D b0) (w : hg_W D b0 L f s.heap H locs) (hM : hg_Mq l y ws rm D b0 L f (.ref a :: As) post mc ms) (cw : CallW R s args own Cn index y bytes maxL ret ws rm mc ms n)
    (ha : a ∈ L) (hf : f a = .inr (ci, fs)) (hc : vwCl[ci]? = some q) (hq : q.1 = Cn) (hn : As.length = n) (hls : ls.size = nL) (hst : st = As.reverse ++ .ref a :: rest) (hW : (rest.map fun v => v.category).sum ≤ 8) (hdg : decode cc pc = .ok (.invokevirtual index, 3)) (hcap : cells + mc ≤ R.cells ∧ slots + ms ≤ R.slots)
    (kk : ∀ (r : Option Nat) (u : hg_S) (H1 : Heap) (locs1 : List Loc), post r u → hg_W D b0 u.1 u.2 s.heap H1 locs1 → W p l e R s m args below meth c H1 locs1 (cells + mc) (slots + ms) Q (F0 m (pc + 3) ls (va_rf r :: rest))) : W p l e R s m args below meth c H locs cells slots Q (F0 m pc ls st) :=
  hg_backq w (va_runV X.1 hM cw ⟨hg_blind _ _ _ _ _, hg_recv X w ha hf hc hq, hg_pre X.2.2 X.2.1 w⟩ rfl hn hls hst (lv_room hW) hdg hcap) kk
/-- invokestatic -/
theorem hg_si {post : Int32 → hg_S → Prop} (X : hg_C p s m args c cc nL Ts own D b0) (w : hg_W D b0 L f s.heap H locs) (hM : hg_Mi l y ws rm D b0 L f As post mc ms) (cw : CallB R s args own index y bytes maxL ret ws rm mc ms n ∧ (Cond.static y).before args s = true)
    (hn : As.length = n) (hls : ls.size = nL) (hst : st = As.reverse ++ rest) (hW : (rest.map fun v => v.category).sum ≤ 8) (hdg : decode cc pc = .ok (.invokestatic index, 3)) (hcap : cells + mc ≤ R.cells ∧ slots + ms ≤ R.slots)
    (kk : ∀ (r : Int32) (u : hg_S) (H1 : Heap) (locs1 : List Loc), post r u → hg_W D b0 u.1 u.2 s.heap H1 locs1 → W p l e R s m args below meth c H1 locs1 (cells + mc) (slots + ms) Q (F0 m (pc + 3) ls (.int r :: rest))) : W p l e R s m args below meth c H locs cells slots Q (F0 m pc ls st) :=
  hg_back w (va_runS X.1 hM cw ⟨hg_blind _ _ _ _ _, hg_pre X.2.2 X.2.1 w⟩ rfl hn hls hst (lv_room hW) hdg hcap) kk
theorem hg_sv {post : hg_S → Prop} (X : hg_C p s m args c cc nL Ts own D b0) (w : hg_W D b0 L f s.heap H locs) (hM : hg_Mv l y ws rm D b0 L f As post mc ms) (cw : CallB R s args own index y bytes maxL ret ws rm mc ms n ∧ (Cond.static y).before args s = true)
    (hn : As.length = n) (hls : ls.size = nL) (hst : st = As.reverse ++ rest) (hW : (rest.map fun v => v.category).sum ≤ 8) (hdg : decode cc pc = .ok (.invokestatic index, 3)) (hcap : cells + mc ≤ R.cells ∧ slots + ms ≤ R.slots)
    (kk : ∀ (u : hg_S) (H1 : Heap) (locs1 : List Loc), post u → hg_W D b0 u.1 u.2 s.heap H1 locs1 → W p l e R s m args below meth c H1 locs1 (cells + mc) (slots + ms) Q (F0 m (pc + 3) ls rest)) : W p l e R s m args below meth c H locs cells slots Q (F0 m pc ls st) :=
  hg_backv w (va_runS X.1 hM cw ⟨hg_blind _ _ _ _ _, hg_pre X.2.2 X.2.1 w⟩ rfl hn hls hst (lv_room hW) hdg hcap) kk
theorem hg_sq {post : Option Nat → hg_S → Prop} (X : hg_C p s m args c cc nL Ts own D b0) (w : hg_W D b0 L f s.heap H locs) (hM : hg_Mq l y ws rm D b0 L f As post mc ms) (cw : CallB R s args own index y bytes maxL ret ws rm mc ms n ∧ (Cond.static y).before args s = true)
    (hn : As.length = n) (hls : ls.size = nL) (hst : st = As.reverse ++ rest) (hW : (rest.map fun v => v.category).sum ≤ 8) (hdg : decode cc pc = .ok (.invokestatic index, 3)) (hcap : cells + mc ≤ R.cells ∧ slots + ms ≤ R.slots)
    (kk : ∀ (r : Option Nat) (u : hg_S) (H1 : Heap) (locs1 : List Loc), post r u → hg_W D b0 u.1 u.2 s.heap H1 locs1 → W p l e R s m args below meth c H1 locs1 (cells + mc) (slots + ms) Q (F0 m (pc + 3) ls (va_rf r :: rest))) : W p l e R s m args below meth c H locs cells slots Q (F0 m pc ls st) :=
  hg_backq w (va_runS X.1 hM cw ⟨hg_blind _ _ _ _ _, hg_pre X.2.2 X.2.1 w⟩ rfl hn hls hst (lv_room hW) hdg hcap) kk
/-- where nothing is made: the answer and the world behind -/
theorem hg_viF {r : Int32} {f' : Nat → va_E} (X : hg_C p s m args c cc nL Ts own D b0) (w : hg_W D b0 L f s.heap H locs) (hM : hg_Fi l y ws rm D b0 L f (.ref a :: As) r f') (cw : CallW R s args own Cn index y bytes maxL ret ws rm 0 0 n)
    (ha : a ∈ L) (hf : f a = .inr (ci, fs)) (hc : vwCl[ci]? = some q) (hq : q.1 = Cn) (hn : As.length = n) (hls : ls.size = nL) (hst : st = As.reverse ++ .ref a :: rest) (hW : (rest.map fun v => v.category).sum ≤ 8) (hdg : decode cc pc = .ok (.invokevirtual index, 3)) (hcap : cells ≤ R.cells ∧ slots ≤ R.slots)
    (kk : ∀ (H1 : Heap) (locs1 : List Loc), hg_W D b0 L f' s.heap H1 locs1 → W p l e R s m args below meth c H1 locs1 cells slots Q (F0 m (pc + 3) ls (.int r :: rest))) : W p l e R s m args below meth c H locs cells slots Q (F0 m pc ls st) :=
  hg_vi X w hM cw ha hf hc hq hn hls hst hW hdg hcap (fun r1 u H1 locs1 hp hw => by obtain ⟨rfl, rfl⟩ := hp; exact kk H1 locs1 hw)
theorem hg_vvF {f' : Nat → va_E} (X : hg_C p s m args c cc nL Ts own D b0) (w : hg_W D b0 L f s.heap H locs) (hM : hg_Fv l y ws rm D b0 L f (.ref a :: As) f') (cw : CallW R s args own Cn index y bytes maxL ret ws rm 0 0 n)
    (ha : a ∈ L) (hf : f a = .inr (ci, fs)) (hc : vwCl[ci]? = some q) (hq : q.1 = Cn) (hn : As.length = n) (hls : ls.size = nL) (hst : st = As.reverse ++ .ref a :: rest) (hW : (rest.map fun v => v.category).sum ≤ 8) (hdg : decode cc pc = .ok (.invokevirtual index, 3)) (hcap : cells ≤ R.cells ∧ slots ≤ R.slots)
    (kk : ∀ (H1 : Heap) (locs1 : List Loc), hg_W D b0 L f' s.heap H1 locs1 → W p l e R s m args below meth c H1 locs1 cells slots Q (F0 m (pc + 3) ls rest)) : W p l e R s m args below meth c H locs cells slots Q (F0 m pc ls st) :=
  hg_vv X w hM cw ha hf hc hq hn hls hst hW hdg hcap (fun u H1 locs1 hp hw => by subst hp; exact kk H1 locs1 hw)
theorem hg_vqF {r : Option Nat} {f' : Nat → va_E} (X : hg_C p s m args c cc nL Ts own D b0) (w : hg_W D b0 L f s.heap H locs) (hM : hg_Fq l y ws rm D b0 L f (.ref a :: As) r f') (cw : CallW R s args own Cn index y bytes maxL ret ws rm 0 0 n)
    (ha : a ∈ L) (hf : f a = .inr (ci, fs)) (hc : vwCl[ci]? = some q) (hq : q.1 = Cn) (hn : As.length = n) (hls : ls.size = nL) (hst : st = As.reverse ++ .ref a :: rest) (hW : (rest.map fun v => v.category).sum ≤ 8) (hdg : decode cc pc = .ok (.invokevirtual index, 3)) (hcap : cells ≤ R.cells ∧ slots ≤ R.slots)
    (kk : ∀ (H1 : Heap) (locs1 : List Loc), hg_W D b0 L f' s.heap H1 locs1 → W p l e R s m args below meth c H1 locs1 cells slots Q (F0 m (pc + 3) ls (va_rf r :: rest))) : W p l e R s m args below meth c H locs cells slots Q (F0 m pc ls st) :=
  hg_vq X w hM cw ha hf hc hq hn hls hst hW hdg hcap (fun r1 u H1 locs1 hp hw => by obtain ⟨rfl, rfl⟩ := hp; exact kk H1 locs1 hw)
theorem hg_siF {r : Int32} {f' : Nat → va_E} (X : hg_C p s m args c cc nL Ts own D b0) (w : hg_W D b0 L f s.heap H locs) (hM : hg_Fi l y ws rm D b0 L f As r f') (cw : CallB R s args own index y bytes maxL ret ws rm 0 0 n ∧ (Cond.static y).before args s = true)
    (hn : As.length = n) (hls : ls.size = nL) (hst : st = As.reverse ++ rest) (hW : (rest.map fun v => v.category).sum ≤ 8) (hdg : decode cc pc = .ok (.invokestatic index, 3)) (hcap : cells ≤ R.cells ∧ slots ≤ R.slots)
    (kk : ∀ (H1 : Heap) (locs1 : List Loc), hg_W D b0 L f' s.heap H1 locs1 → W p l e R s m args below meth c H1 locs1 cells slots Q (F0 m (pc + 3) ls (.int r :: rest))) : W p l e R s m args below meth c H locs cells slots Q (F0 m pc ls st) :=
  hg_si X w hM cw hn hls hst hW hdg hcap (fun r1 u H1 locs1 hp hw => by obtain ⟨rfl, rfl⟩ := hp; exact kk H1 locs1 hw)
theorem hg_svF {f' : Nat → va_E} (X : hg_C p s m args c cc nL Ts own D b0) (w : hg_W D b0 L f s.heap H locs) (hM : hg_Fv l y ws rm D b0 L f As f') (cw : CallB R s args own index y bytes maxL ret ws rm 0 0 n ∧ (Cond.static y).before args s = true)
    (hn : As.length = n) (hls : ls.size = nL) (hst : st = As.reverse ++ rest) (hW : (rest.map fun v => v.category).sum ≤ 8) (hdg : decode cc pc = .ok (.invokestatic index, 3)) (hcap : cells ≤ R.cells ∧ slots ≤ R.slots)
    (kk : ∀ (H1 : Heap) (locs1 : List Loc), hg_W D b0 L f' s.heap H1 locs1 → W p l e R s m args below meth c H1 locs1 cells slots Q (F0 m (pc + 3) ls rest)) : W p l e R s m args below meth c H locs cells slots Q (F0 m pc ls st) :=
  hg_sv X w hM cw hn hls hst hW hdg hcap (fun u H1 locs1 hp hw => by subst hp; exact kk H1 locs1 hw)
theorem hg_sqF {r : Option Nat} {f' : Nat → va_E} (X : hg_C p s m args c cc nL Ts own D b0) (w : hg_W D b0 L f s.heap H locs) (hM : hg_Fq l y ws rm D b0 L f As r f') (cw : CallB R s args own index y bytes maxL ret ws rm 0 0 n ∧ (Cond.static y).before args s = true)
    (hn : As.length = n) (hls : ls.size = nL) (hst : st = As.reverse ++ rest) (hW : (rest.map fun v => v.category).sum ≤ 8) (hdg : decode cc pc = .ok (.invokestatic index, 3)) (hcap : cells ≤ R.cells ∧ slots ≤ R.slots)
    (kk : ∀ (H1 : Heap) (locs1 : List Loc), hg_W D b0 L f' s.heap H1 locs1 → W p l e R s m args below meth c H1 locs1 cells slots Q (F0 m (pc + 3) ls (va_rf r :: rest))) : W p l e R s m args below meth c H locs cells slots Q (F0 m pc ls st) :=
  hg_sq X w hM cw hn hls hst hW hdg hcap (fun r1 u H1 locs1 hp hw => by obtain ⟨rfl, rfl⟩ := hp; exact kk H1 locs1 hw)
end HG
