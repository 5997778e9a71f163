/-! the calls that only look, and those that are asked -/
abbrev hs_NONE : Int32 := -1000000
abbrev hs_STATE : Int32 := -1000002
abbrev hs_FULL : Int32 := -1000003
def q_stall (g : Nat → Int32) (n : Nat) (s what : Int32) : Int32 :=
  if hs_isSt g s = 0 ∨ hs_in what 0 8 = 0 then hs_BAD else if what < 6 then g (14 + 6 * what.toNatClampNeg + s.toNatClampNeg) else if what = 6 then hs_weight g s.toNatClampNeg else if what = 7 then hs_deep g n s.toNatClampNeg else hs_price g n s.toNatClampNeg
def q_rope (g : Nat → Int32) (n : Nat) (rope place what : Int32) : Int32 :=
  if hs_isRo g rope = 0 ∨ hs_in place 1 8 = 0 ∨ hs_in what 0 3 = 0 then hs_BAD else if what = 0 then hs_sag g n rope place else if what = 1 then hs_depth g n rope place else if what = 2 then g (5 + rope.toNatClampNeg) else if hs_who g rope place n < 0 then hs_NONE else hs_who g rope place n
def q_drops (g : Nat → Int32) (n : Nat) : Int32 := if g 4 = 0 then hs_STATE else hs_drop g n n
def q_walkway (g : Nat → Int32) (n : Nat) (a b : Int32) : Int32 := if hs_isSt g a = 0 ∨ hs_isSt g b = 0 ∨ a = b then hs_BAD else hs_walk g n a.toNatClampNeg b.toNatClampNeg
def q_walkways (g : Nat → Int32) (n : Nat) (what : Int32) : Int32 := if g 4 = 0 then hs_STATE else if hs_in what 0 1 = 0 then hs_BAD else hs_wks g n (what + 1) n
def q_kind (g : Nat → Int32) (one : Int32) : Int32 := if hs_isSt g one = 0 then hs_BAD else g (8 + one.toNatClampNeg)
def sp_as (M : Nat → Nat → Int32) (one kind : Int32) : sp_S :=
  if hs_isSt (M 0) one = 0 ∨ hs_in kind 0 5 = 0 then (hs_BAD, M) else if hs_isof (M 0 (8 + one.toNatClampNeg)) kind = 0 then sp_found M 3 else sp_well M one
def q_trace (M : Nat → Nat → Int32) (x : Int32) : Int32 := if hs_in x 0 (M 18 0 - 1) = 0 then hs_NONE else M 17 x.toNatClampNeg
def hs_many (M : Nat → Nat → Int32) : Nat → Int32
  | 0 => 0
  | k + 1 => hs_many M k + (if M 3 k < 0 then 0 else 1)
def q_count (M : Nat → Nat → Int32) (what : Int32) : Int32 :=
  if what = 0 then hs_many M 8 else if what = 1 then M 0 2 else if what = 2 then M 0 3 else if what = 3 then M 0 0 else if what = 4 then M 0 1 else if what = 5 then M 1 0 else if what = 6 then M 9 0 else hs_BAD
/-- THE TRACE -/
def sp_leave (M : Nat → Nat → Int32) (b : Int32) : Nat → Nat → Int32 := if M 18 0 < 16 then mo_w (mo_w M 17 (M 18 0).toNatClampNeg b) 18 0 (M 18 0 + 1) else M
def hs_tr (M : Nat → Nat → Int32) : Prop := ∃ t : Nat, t ≤ 16 ∧ M 18 0 = nI t
theorem sp_leave_ne (M : Nat → Nat → Int32) (b : Int32) {k : Nat} (h : k ≠ 17) (h2 : k ≠ 18) : sp_leave M b k = M k := by
  unfold sp_leave
  split
  · rw [mo_w, va_up_ne _ _ h2, mo_w, va_up_ne _ _ h]
  · rfl
theorem sp_leave_0 (M : Nat → Nat → Int32) (b : Int32) : sp_leave M b 0 = M 0 := sp_leave_ne M b (by decide) (by decide)
theorem hs_tr_l {M : Nat → Nat → Int32} {b : Int32} (h : hs_tr M) : hs_tr (sp_leave M b) := by
  obtain ⟨t, h1, h2⟩ := h
  unfold sp_leave
  split
  · rename_i h3
    refine ⟨t + 1, ?_, ?_⟩
    · rw [h2] at h3
      have := (nI_ltI (a := t) (b := 16) (by omega) (by omega)).mp h3
      omega
    · simp only [mo_w, va_up_self, h2, nI_1]
  · exact ⟨t, h1, h2⟩
theorem hs_tr_0 (M : Nat → Nat → Int32) : hs_tr (mo_w M 18 0 0) := ⟨0, by omega, by simp only [mo_w, va_up_self]; rfl⟩
def sp_tmark (M : Nat → Nat → Int32) (s : Nat) : sp_S := (nI s + hs_weight (M 0) s, sp_leave (sp_leave M 21) 20)
def sp_markT (M : Nat → Nat → Int32) (s : Nat) : sp_S :=
  if M 0 (8 + s) = 2 then (2 * (sp_tmark M s).1, (sp_tmark (sp_leave M 24) s).2) else if M 0 (8 + s) = 3 then ((sp_tmark M s).1 - 1000, (sp_tmark (sp_leave M 22) s).2) else sp_tmark M s
def sp_tsize (M : Nat → Nat → Int32) (s : Nat) : sp_S := (M 0 (26 + s) + (sp_markT M s).1, (sp_markT (sp_leave (sp_leave M 11) 10) s).2)
def sp_nsize (M : Nat → Nat → Int32) (s : Nat) : sp_S := (M 0 (26 + s) - 100, sp_leave (sp_leave M 13) 10)
def sp_size (M : Nat → Nat → Int32) (s : Nat) : sp_S :=
  if M 0 (8 + s) = 2 then (-(sp_tsize M s).1, (sp_tsize (sp_leave M 12) s).2) else if M 0 (8 + s) = 4 then sp_nsize M s else if M 0 (8 + s) = 5 then (2 * (sp_nsize M s).1, (sp_nsize (sp_leave M 14) s).2) else sp_tsize M s
def sp_mark (M : Nat → Nat → Int32) (s : Nat) : sp_S :=
  if M 0 (8 + s) < 4 then sp_markT M s else (nI s - (sp_size M s).1, (sp_size (sp_leave (sp_leave M 23) 20) s).2)
def sp_ask (M : Nat → Nat → Int32) (one what : Int32) : sp_S :=
  if hs_isSt (M 0) one = 0 ∨ hs_in what 0 1 = 0 then (hs_BAD, M) else if what = 0 then sp_size (mo_w M 18 0 0) one.toNatClampNeg else sp_mark (mo_w M 18 0 0) one.toNatClampNeg
theorem sp_tmark_1 {M N : Nat → Nat → Int32} (h : M 0 = N 0) (s : Nat) : (sp_tmark M s).1 = (sp_tmark N s).1 := by simp [sp_tmark, h]
theorem sp_markT_1 {M N : Nat → Nat → Int32} (h : M 0 = N 0) (s : Nat) : (sp_markT M s).1 = (sp_markT N s).1 := by
  unfold sp_markT
  rw [h]
  split
  · simp [sp_tmark, h]
  · split <;> simp [sp_tmark, h]
theorem sp_tsize_1 {M N : Nat → Nat → Int32} (h : M 0 = N 0) (s : Nat) : (sp_tsize M s).1 = (sp_tsize N s).1 := by simp [sp_tsize, h, sp_markT_1 h]
theorem sp_nsize_1 {M N : Nat → Nat → Int32} (h : M 0 = N 0) (s : Nat) : (sp_nsize M s).1 = (sp_nsize N s).1 := by simp [sp_nsize, h]
theorem sp_size_1 {M N : Nat → Nat → Int32} (h : M 0 = N 0) (s : Nat) : (sp_size M s).1 = (sp_size N s).1 := by
  unfold sp_size
  rw [h]
  repeat' split
  all_goals simp [sp_tsize_1 h, sp_nsize_1 h]
theorem hs_w6 {x : Int32} {q : Nat} (hx : x = nI q) (hq : q ≤ 8) (h : ¬ 6 ≤ x) : q < 6 := by
  rcases Nat.lt_or_ge q 6 with z | z
  · exact z
  · exact absurd (by rw [hx]; exact nI_le (a := 6) z (by omega)) h
theorem hs_in_j {x b : Int32} {n : Nat} (hb : b = nI n) (hn : n < 2 ^ 31) (h : ¬ hs_in x 0 b = 0) : ∃ j : Nat, j ≤ n ∧ x = nI j := by
  subst hb
  exact hs_ix hn (hs_in_1 h)
theorem hs_in_jm {x : Int32} {n : Nat} (hn : n < 2 ^ 31) (h : ¬ hs_in x 0 (nI n - 1) = 0) : ∃ j : Nat, j < n ∧ x = nI j := by
  have h1 := hs_in_1 h
  cases n with
  | zero =>
    exfalso
    have a := h1.1
    have b := h1.2
    rw [Int32.le_iff_toInt_le] at a b
    have e : (nI 0 - 1 : Int32).toInt = -1 := by decide +kernel
    have e0 : (0 : Int32).toInt = 0 := by decide
    omega
  | succ n =>
    rw [nI_pred] at h1
    obtain ⟨j, h1, h2⟩ := hs_ix (n := n) (by omega) h1
    exact ⟨j, by omega, h2⟩
