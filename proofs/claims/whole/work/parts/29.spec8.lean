/-! rows of numbers moved within w: acts, images; copy -/
def hs_blk (g : Nat → Int32) (dst src k : Nat) : Nat → Int32 := fun j => if dst ≤ j ∧ j < dst + k then g (j - dst + src) else g j
theorem hs_blk_0 (g : Nat → Int32) (dst src : Nat) : hs_blk g dst src 0 = g := by funext j; simp only [hs_blk]; rw [if_neg (by omega)]
theorem hs_blk_s (g : Nat → Int32) {dst src k : Nat} (h : src + k < dst ∨ dst ≤ src) : va_up (hs_blk g dst src k) (dst + k) (hs_blk g dst src k (src + k)) = hs_blk g dst src (k + 1) := by
  funext j
  simp only [hs_blk, va_up]
  by_cases h1 : j = dst + k
  · subst h1
    rw [if_pos rfl, if_neg (by omega), if_pos (by omega)]
    congr 1
    omega
  · rw [if_neg h1]
    by_cases h2 : dst ≤ j ∧ j < dst + k
    · rw [if_pos h2, if_pos (by omega)]
    · rw [if_neg h2, if_neg (by omega)]
theorem hs_blk_out (g : Nat → Int32) {dst src k j : Nat} (h : j < dst ∨ dst + k ≤ j) : hs_blk g dst src k j = g j := by
  simp only [hs_blk]
  rw [if_neg (by omega)]
theorem mo_01 (M : Nat → Nat → Int32) (A B : Nat → Int32) (x y : Int32) : mo_w (va_up (mo_w (va_up M 0 A) 1 0 x) 0 B) 1 0 y = mo_w (va_up M 0 B) 1 0 y := by
  funext k
  simp only [mo_w, va_up]
  by_cases h1 : k = 1
  · subst h1
    simp only [if_pos, if_true]
    funext j
    by_cases h2 : j = 0 <;> simp [h2, va_up]
  · by_cases h0 : k = 0 <;> simp [h0, h1]
theorem mo_10 (M : Nat → Nat → Int32) (B : Nat → Int32) (x : Int32) : va_up (mo_w M 1 0 x) 0 B = mo_w (va_up M 0 B) 1 0 x := by
  funext k
  simp only [mo_w, va_up]
  by_cases h1 : k = 1
  · subst h1; simp
  · by_cases h0 : k = 0 <;> simp [h0, h1]
def hs_push (g : Nat → Int32) (a : Nat) : Nat → Int32 := if a = 24 then hs_blk (hs_blk g 200 250 1150) 1350 0 50 else hs_blk g (200 + 50 * a) 0 50
def hs_pa (a : Nat) : Nat := if a = 24 then 24 else a + 1
def sp_minds (M : Nat → Nat → Int32) (a : Nat) : Nat → Nat → Int32 := mo_w (va_up M 0 (hs_push (M 0) a)) 1 0 (nI (hs_pa a))
theorem hs_push_lt (g : Nat → Int32) (a : Nat) {j : Nat} (h : j < 200) : hs_push g a j = g j := by
  unfold hs_push
  split
  · rw [hs_blk_out _ (by omega), hs_blk_out _ (by omega)]
  · rw [hs_blk_out _ (by omega)]
theorem sp_minds_0 (M : Nat → Nat → Int32) (a : Nat) {j : Nat} (h : j < 200) : sp_minds M a 0 j = M 0 j := by
  have e : sp_minds M a 0 = hs_push (M 0) a := rfl
  rw [e, hs_push_lt _ _ h]
def sp_undo (M : Nat → Nat → Int32) (a : Nat) : sp_S := if a = 0 then (hs_STATE, M) else (nI (a - 1), mo_w (va_up M 0 (hs_blk (M 0) 0 (200 + 50 * (a - 1)) 50)) 1 0 (nI (a - 1)))
def sp_buyers (M : Nat → Nat → Int32) (a : Nat) (s n : Int32) : sp_S :=
  if hs_isSt (M 0) s = 0 ∨ hs_in n 0 20 = 0 then (hs_BAD, M) else (M 0 (32 + s.toNatClampNeg), mo_w (sp_minds M a) 0 (32 + s.toNatClampNeg) n)
def sp_girl (M : Nat → Nat → Int32) (a : Nat) (s by0 : Int32) : sp_S :=
  if hs_isSt (M 0) s = 0 ∨ (¬ by0 = 1 ∧ ¬ by0 = -1) then (hs_BAD, M) else if by0 < 0 ∧ M 0 (38 + s.toNatClampNeg) = 0 then (hs_STATE, M) else if 0 < by0 ∧ M 0 (38 + s.toNatClampNeg) = 9 then (hs_FULL, M) else
    (M 0 (38 + s.toNatClampNeg) + by0, mo_w (sp_minds M a) 0 (38 + s.toNatClampNeg) (M 0 (38 + s.toNatClampNeg) + by0))
def sp_slide (M : Nat → Nat → Int32) (n a : Nat) (s place : Int32) : sp_S :=
  if hs_isSt (M 0) s = 0 ∨ hs_in place 1 8 = 0 then (hs_BAD, M) else if hs_who (M 0) (M 0 (14 + s.toNatClampNeg)) place n < 0 then (M 0 (20 + s.toNatClampNeg), mo_w (sp_minds M a) 0 (20 + s.toNatClampNeg) place) else (hs_STATE, M)
def sp_unload (M : Nat → Nat → Int32) (a : Nat) (s off : Int32) : sp_S :=
  if hs_isSt (M 0) s = 0 ∨ hs_in off 0 1 = 0 then (hs_BAD, M) else if M 0 (44 + s.toNatClampNeg) = off then (hs_STATE, M) else (hs_weight (va_up (M 0) (44 + s.toNatClampNeg) off) s.toNatClampNeg, mo_w (sp_minds M a) 0 (44 + s.toNatClampNeg) off)
def sp_rain (M : Nat → Nat → Int32) (a : Nat) : sp_S :=
  if M 0 4 = 0 then (hs_STATE, M) else if M 0 1 = 99 then (hs_FULL, M) else (M 0 1 + 1, mo_w (sp_minds M a) 0 1 (M 0 1 + 1))
def sp_cut (M : Nat → Nat → Int32) (a : Nat) (rope : Int32) : sp_S :=
  if hs_isRo (M 0) rope = 0 then (hs_BAD, M) else if M 0 (5 + rope.toNatClampNeg) = 1 then (hs_STATE, M) else (M 0 (5 + rope.toNatClampNeg) - 1, mo_w (sp_minds M a) 0 (5 + rope.toNatClampNeg) (M 0 (5 + rope.toNatClampNeg) - 1))
def sp_image (M : Nat → Nat → Int32) (k : Int32) : sp_S :=
  if hs_in k 0 1 = 0 then (hs_BAD, M) else if M 0 4 = 0 then (hs_STATE, M) else (1, mo_w (va_up M 0 (hs_blk (M 0) (50 * (k.toNatClampNeg + 1)) 0 50)) 2 k.toNatClampNeg 1)
def sp_restore (M : Nat → Nat → Int32) (k : Int32) : sp_S :=
  if hs_in k 0 1 = 0 then (hs_BAD, M) else if M 2 k.toNatClampNeg = 0 then (hs_STATE, M) else (1, mo_w (va_up M 0 (hs_blk (M 0) 0 (50 * (k.toNatClampNeg + 1)) 50)) 1 0 0)
theorem hs_weight_c {g h : Nat → Int32} (s : Nat) (hs : s < 6) (e : ∀ j, j < 50 → g j = h j) : hs_weight g s = hs_weight h s := by
  simp only [hs_weight, hs_wares, hs_goods, hs_buy]
  rw [e (8 + s) (by omega), e (44 + s) (by omega), e (26 + s) (by omega), e (38 + s) (by omega), e (32 + s) (by omega)]
section HG
variable {p : Program} {l : Launch} {e : Env} {R : Room} {s : State} {m : MethodId} {args : Array Value} {below : List Frame} {meth : Method} {c : Code} {H : Heap} {locs : List Loc} {cells slots : Nat} {Q : State → Prop}
variable {cc : ByteArray} {nL : Nat} {Ts : List Cond} {own : String} {D : va_G} {b0 : Nat} {L : List Nat} {f : Nat → va_E} {pc : Nat} {ls : Array Slot} {rest st : List Value} {a : Nat} {mo : Nat} {ma : Nat → Nat} {M : Nat → Nat → Int32}
theorem mo_zald (X : hg_C p s m args c cc nL Ts own D b0) (w : hg_W D b0 L (mo_F D f mo ma M) s.heap H locs) (hm : mo_ok L mo ma) {i : Int32} (j : Nat) (hi : i = nI j) (hj : j < 2) (hdg : decode cc pc = .ok (.baload, 1))
    (kk : W p l e R s m args below meth c H locs cells slots Q (F0 m (pc + 1) ls (.int (M 2 j) :: rest))) : W p l e R s m args below meth c H locs cells slots Q (F0 m pc ls (.int i :: .ref (ma 2) :: rest)) := by
  obtain ⟨⟨hx, hb, hml, hown, hts⟩, hK, hb0⟩ := X
  obtain ⟨q0, hq⟩ := hg_at (hm.2.1 2 (by decide)).1 (mo_atk hm D f M (k := 2) (by decide))
  subst hi
  refine va_zald (n := 2) (f := M 2) hx hb hK.1 w.1.1 q0 1 hq rfl (vp_in_nI hj (by decide)) hdg ?_
  rw [nI_clamp (by omega)]
  exact kk
theorem mo_zast (X : hg_C p s m args c cc nL Ts own D b0) (w : hg_W D b0 L (mo_F D f mo ma M) s.heap H locs) (hm : mo_ok L mo ma) {i : Int32} (j : Nat) (hi : i = nI j) (hj : j < 2) (hdg : decode cc pc = .ok (.bastore, 1))
    (kk : ∀ (H1 : Heap) (locs1 : List Loc), hg_W D b0 L (mo_F D f mo ma (mo_w M 2 j 1)) s.heap H1 locs1 → W p l e R s m args below meth c H1 locs1 cells slots Q (F0 m (pc + 1) ls rest)) : W p l e R s m args below meth c H locs cells slots Q (F0 m pc ls (.int 1 :: .int i :: .ref (ma 2) :: rest)) := by
  obtain ⟨⟨hx, hb, hml, hown, hts⟩, hK, hb0⟩ := X
  obtain ⟨q0, hq⟩ := hg_at (hm.2.1 2 (by decide)).1 (mo_atk hm D f M (k := 2) (by decide))
  subst hi
  refine va_zast (n := 2) (f := M 2) hx hb hK.1 w.1.1 w.1.2 w.2 q0 1 hq rfl (vp_in_nI hj (by decide)) hdg (fun H1 locs1 h1 h2 h3 => ?_)
  rw [nI_clamp (by omega)] at h1 h2
  have hu : (Sum.inl (D.1 12, 2, Sum.inl (upd (M 2) j (vp_nar .boolean 1))) : va_E) = mo_ar D 2 (va_up (M 2) j 1) := rfl
  have h1' : va_P D vwCl ((va_pl L (mo_F D f mo ma M)).set q0 (ma 2, mo_ar D 2 (va_up (M 2) j 1))) H1 := h1
  have h2' : va_D (hg_A b0) ((va_pl L (mo_F D f mo ma M)).set q0 (ma 2, mo_ar D 2 (va_up (M 2) j 1))) := h2
  rw [hg_up w.1.2 (hm.2.1 2 (by decide)).1 hq, mo_upk hm (by decide)] at h1' h2'
  exact kk H1 locs1 ⟨⟨h1', h2'⟩, h3⟩
end HG
