/-! THE READER, pure: h the market that is read (as the row of numbers from 150 on), p where it stands, s where the last piece began, f the fault that would be told, v the last number -/
def hs_ov (g h : Nat → Int32) : Nat → Int32 := fun j => if 150 ≤ j ∧ j < 200 then h (j - 150) else g j
abbrev ps_S : Type := (Nat → Int32) × Nat × Nat × Int32 × Int32
def mo_rd (M : Nat → Nat → Int32) (h : Nat → Int32) (a s f v : Int32) : Nat → Nat → Int32 := fun k =>
  if k = 0 then hs_ov (M 0) h else if k = 11 then va_up (M 11) 0 a else if k = 12 then va_up (M 12) 0 s else if k = 13 then va_up (M 13) 0 f else if k = 14 then va_up (M 14) 0 v else M k
def mo_ps (M : Nat → Nat → Int32) (S : ps_S) : Nat → Nat → Int32 := mo_rd M S.1 (nI S.2.1) (nI S.2.2.1) S.2.2.2.1 S.2.2.2.2
theorem hs_uu (g : Nat → Int32) (j : Nat) (u v : Int32) : va_up (va_up g j u) j v = va_up g j v := bx_uu g j u v
theorem mo_rd_11 (M : Nat → Nat → Int32) (h : Nat → Int32) (a s f v x : Int32) : mo_w (mo_rd M h a s f v) 11 0 x = mo_rd M h x s f v := by
  funext k
  simp only [mo_w, va_up, mo_rd]
  by_cases q : k = 11
  · subst q; funext j; by_cases z : j = 0 <;> simp [z, va_up]
  · simp [q]
theorem mo_rd_12 (M : Nat → Nat → Int32) (h : Nat → Int32) (a s f v x : Int32) : mo_w (mo_rd M h a s f v) 12 0 x = mo_rd M h a x f v := by
  funext k
  simp only [mo_w, va_up, mo_rd]
  by_cases q : k = 12
  · subst q; funext j; by_cases z : j = 0 <;> simp [z, va_up]
  · simp [q]
theorem mo_rd_13 (M : Nat → Nat → Int32) (h : Nat → Int32) (a s f v x : Int32) : mo_w (mo_rd M h a s f v) 13 0 x = mo_rd M h a s x v := by
  funext k
  simp only [mo_w, va_up, mo_rd]
  by_cases q : k = 13
  · subst q; funext j; by_cases z : j = 0 <;> simp [z, va_up]
  · simp [q]
theorem mo_rd_14 (M : Nat → Nat → Int32) (h : Nat → Int32) (a s f v x : Int32) : mo_w (mo_rd M h a s f v) 14 0 x = mo_rd M h a s f x := by
  funext k
  simp only [mo_w, va_up, mo_rd]
  by_cases q : k = 14
  · subst q; funext j; by_cases z : j = 0 <;> simp [z, va_up]
  · simp [q]
theorem mo_rd_0 (M : Nat → Nat → Int32) (h : Nat → Int32) (a s f v x : Int32) {j : Nat} (hj : j < 50) : mo_w (mo_rd M h a s f v) 0 (150 + j) x = mo_rd M (va_up h j x) a s f v := by
  funext k
  simp only [mo_w, va_up, mo_rd]
  by_cases q : k = 0
  · subst q
    simp only [if_pos]
    funext i
    simp only [hs_ov, va_up]
    by_cases z : i = 150 + j
    · subst z
      rw [if_pos rfl, if_pos (by omega), if_pos (by omega)]
    · rw [if_neg z]
      by_cases y : 150 ≤ i ∧ i < 200
      · rw [if_pos y, if_pos y, if_neg (by omega)]
      · rw [if_neg y, if_neg y]
  · simp [q]
theorem mo_rd_at (M : Nat → Nat → Int32) (h : Nat → Int32) (a s f v : Int32) {j : Nat} (hj : j < 50) : mo_rd M h a s f v 0 (150 + j) = h j := by
  show hs_ov (M 0) h (150 + j) = h j
  simp only [hs_ov]
  rw [if_pos (by omega), Nat.add_sub_cancel_left]
/-- so many figures stand from p on -/
def hs_nf (M : Nat → Nat → Int32) (p : Nat) : Nat → Nat
  | 0 => 0
  | f + 1 => if hs_fig M p = 0 then 0 else hs_nf M (p + 1) f + 1
theorem hs_fig_end (M : Nat → Nat → Int32) {t k : Nat} (ht : M 9 0 = nI t) (ht1 : t ≤ 100) (h : t ≤ k) : hs_fig M k = 0 := by
  unfold hs_fig hs_byte
  rw [ht, nI_clamp (by omega), if_neg (by omega)]
  decide
theorem hs_nf_ok (M : Nat → Nat → Int32) {t : Nat} (ht : M 9 0 = nI t) (ht1 : t ≤ 100) : ∀ (f p : Nat), t < p + f → (∀ k, k < hs_nf M p f → ¬ hs_fig M (p + k) = 0) ∧ hs_fig M (p + hs_nf M p f) = 0 ∧ (p ≤ t → p + hs_nf M p f ≤ t) := by
  intro f
  induction f with
  | zero => intro p h; exact ⟨fun k hk => absurd hk (by simp [hs_nf]), hs_fig_end M ht ht1 (by simp [hs_nf]; omega), fun h2 => by simp [hs_nf]; omega⟩
  | succ f ih =>
    intro p h
    unfold hs_nf
    split
    · rename_i c
      exact ⟨fun k hk => absurd hk (by omega), by simpa using c, fun h2 => by simpa using h2⟩
    · rename_i c
      obtain ⟨h1, h2, h3⟩ := ih (p + 1) (by omega)
      have hp : p < t := by
        rcases Nat.lt_or_ge p t with q | q
        · exact q
        · exact absurd (hs_fig_end M ht ht1 q) c
      refine ⟨fun k hk => ?_, ?_, fun _ => ?_⟩
      · cases k with
        | zero => simpa using c
        | succ k => have := h1 k (by omega); rwa [show p + 1 + k = p + (k + 1) by omega] at this
      · rwa [show p + 1 + hs_nf M (p + 1) f = p + (hs_nf M (p + 1) f + 1) by omega] at h2
      · have := h3 (by omega); omega
def hs_val (M : Nat → Nat → Int32) (p : Nat) : Nat → Int32
  | 0 => 0
  | k + 1 => if 2 ≤ k then hs_val M p k else 10 * hs_val M p k + hs_byte M (p + k) - 48
abbrev hs_n (M : Nat → Nat → Int32) (p : Nat) : Nat := hs_nf M p 102
def ps_takes (M : Nat → Nat → Int32) (c : Int32) (S : ps_S) : Int32 × ps_S := if hs_byte M S.2.1 = c then (1, S.1, S.2.1 + 1, S.2.1, 1, S.2.2.2.2) else (0, S.1, S.2.1, S.2.1, 1, S.2.2.2.2)
def ps_num (M : Nat → Nat → Int32) (lo hi : Int32) (S : ps_S) : Int32 × ps_S :=
  if hs_n M S.2.1 = 0 ∨ 2 < hs_n M S.2.1 then (0, S.1, S.2.1, S.2.1, 1, hs_val M S.2.1 (hs_n M S.2.1)) else (hs_in (hs_val M S.2.1 (hs_n M S.2.1)) lo hi, S.1, S.2.1 + hs_n M S.2.1, S.2.1, 2, hs_val M S.2.1 (hs_n M S.2.1))
def ps_set (S : ps_S) (j : Nat) (x : Int32) : ps_S := (va_up S.1 j x, S.2)
def ps_f (S : ps_S) (x : Int32) : ps_S := (S.1, S.2.1, S.2.2.1, x, S.2.2.2.2)
theorem ps_takes_le {M : Nat → Nat → Int32} {t : Nat} (ht : M 9 0 = nI t) (ht1 : t ≤ 100) {c : Int32} (hc : ¬ c = -1) {S : ps_S} (h : S.2.1 ≤ t) : (ps_takes M c S).2.2.1 ≤ t := by
  unfold ps_takes
  split
  · rename_i q
    show S.2.1 + 1 ≤ t
    unfold hs_byte at q
    rw [ht, nI_clamp (by omega)] at q
    split at q
    · omega
    · exact absurd q.symm hc
  · exact h
theorem ps_num_le {M : Nat → Nat → Int32} {t : Nat} (ht : M 9 0 = nI t) (ht1 : t ≤ 100) {lo hi : Int32} {S : ps_S} (h : S.2.1 ≤ t) : (ps_num M lo hi S).2.2.1 ≤ t := by
  unfold ps_num
  split
  · exact h
  · exact (hs_nf_ok M ht ht1 102 S.2.1 (by omega)).2.2 h
theorem ps_takes_b (M : Nat → Nat → Int32) (c : Int32) (S : ps_S) : (ps_takes M c S).1 = 0 ∨ (ps_takes M c S).1 = 1 := by
  unfold ps_takes
  split
  · exact Or.inr rfl
  · exact Or.inl rfl
theorem hs_in_b (x a b : Int32) : hs_in x a b = 0 ∨ hs_in x a b = 1 := by
  unfold hs_in
  split
  · exact Or.inr rfl
  · exact Or.inl rfl
theorem ps_num_b (M : Nat → Nat → Int32) (lo hi : Int32) (S : ps_S) : (ps_num M lo hi S).1 = 0 ∨ (ps_num M lo hi S).1 = 1 := by
  unfold ps_num
  split
  · exact Or.inl rfl
  · exact hs_in_b _ _ _
section HG
variable {p : Program} {l : Launch} {e : Env} {R : Room} {s : State} {m : MethodId} {args : Array Value} {below : List Frame} {meth : Method} {c : Code} {H : Heap} {locs : List Loc} {cells slots : Nat} {Q : State → Prop}
variable {cc : ByteArray} {nL : Nat} {Ts : List Cond} {own : String} {D : va_G} {b0 : Nat} {L : List Nat} {f : Nat → va_E} {pc : Nat} {ls : Array Slot} {rest st : List Value} {a : Nat} {mo : Nat} {ma : Nat → Nat} {M : Nat → Nat → Int32}
theorem mo_ialdv (X : hg_C p s m args c cc nL Ts own D b0) (w : hg_W D b0 L (mo_F D f mo ma M) s.heap H locs) (hm : mo_ok L mo ma) (k : Nat) (hk : k ∈ mo_ks) (hk2 : k ≠ 2) {i : Int32} (j : Nat) (hi : i = nI j) (hj : j < mo_len k) (v : Int32) (hv : M k j = v) (hdg : decode cc pc = .ok (.iaload, 1))
    (kk : W p l e R s m args below meth c H locs cells slots Q (F0 m (pc + 1) ls (.int v :: rest))) : W p l e R s m args below meth c H locs cells slots Q (F0 m pc ls (.int i :: .ref (ma k) :: rest)) := by
  subst hv
  exact mo_iald X w hm k hk hk2 j hi hj hdg kk
end HG
