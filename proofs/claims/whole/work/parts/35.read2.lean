/-! the reader's larger pieces -/
theorem ps_takes_h (M : Nat → Nat → Int32) (c : Int32) (S : ps_S) : (ps_takes M c S).2.1 = S.1 := by unfold ps_takes; split <;> rfl
theorem ps_num_h (M : Nat → Nat → Int32) (lo hi : Int32) (S : ps_S) : (ps_num M lo hi S).2.1 = S.1 := by unfold ps_num; split <;> rfl
abbrev ps_v (S : ps_S) : Int32 := S.2.2.2.2
def pl1 (M : Nat → Nat → Int32) (S : ps_S) : ps_S := (ps_takes M 109 S).2
def pl2 (M : Nat → Nat → Int32) (S : ps_S) : ps_S := (ps_num M 0 99 (pl1 M S)).2
def pl3 (M : Nat → Nat → Int32) (S : ps_S) : ps_S := (ps_takes M 44 (ps_set (pl2 M S) 0 (pl2 M S).2.2.2.2)).2
def pl4 (M : Nat → Nat → Int32) (S : ps_S) : ps_S := (ps_num M 0 20 (pl3 M S)).2
def ps_law (M : Nat → Nat → Int32) (S : ps_S) : Int32 × ps_S :=
  if (ps_takes M 109 S).1 = 0 then (0, pl1 M S) else if (ps_num M 0 99 (pl1 M S)).1 = 0 then (0, pl2 M S) else
  if (ps_takes M 44 (ps_set (pl2 M S) 0 (pl2 M S).2.2.2.2)).1 = 0 then (0, pl3 M S) else if (ps_num M 0 20 (pl3 M S)).1 = 0 then (0, pl4 M S) else
    ps_takes M 59 (ps_set (pl4 M S) 1 (pl4 M S).2.2.2.2)
def ps_ro (S : ps_S) : Nat := (S.1 2).toNatClampNeg
def ps_st (S : ps_S) : Nat := (S.1 3).toNatClampNeg
def pr1 (M : Nat → Nat → Int32) (S : ps_S) : ps_S := (ps_takes M 108 S).2
def pr2 (M : Nat → Nat → Int32) (S : ps_S) : ps_S := (ps_num M 1 20 (pr1 M S)).2
def ps_rope (M : Nat → Nat → Int32) (S : ps_S) : Int32 × ps_S :=
  if (ps_takes M 108 S).1 = 0 then (0, pr1 M S) else if S.1 2 = 3 then (0, ps_f (pr1 M S) 3) else if (ps_num M 1 20 (pr1 M S)).1 = 0 then (0, pr2 M S) else
    ps_takes M 59 (ps_set (ps_set (pr2 M S) (5 + ps_ro S) (pr2 M S).2.2.2.2) 2 (nI (ps_ro S + 1)))
def pt0 (S : ps_S) : ps_S := (S.1, S.2.1, S.2.1, 1, S.2.2.2.2)
def pt1 (S : ps_S) : ps_S := (S.1, S.2.1 + 1, S.2.1, 1, S.2.2.2.2)
def pt2 (M : Nat → Nat → Int32) (S : ps_S) : ps_S := ps_set (pt1 S) (8 + ps_st S) (hs_sort (hs_byte M S.2.1))
def pt3 (M : Nat → Nat → Int32) (S : ps_S) : ps_S := (ps_num M 0 (S.1 2 - 1) (pt2 M S)).2
def pt4 (M : Nat → Nat → Int32) (S : ps_S) : ps_S := ps_set (pt3 M S) (14 + ps_st S) (pt3 M S).2.2.2.2
def pt5 (M : Nat → Nat → Int32) (S : ps_S) : ps_S := (ps_takes M 44 (pt4 M S)).2
def pt6 (M : Nat → Nat → Int32) (S : ps_S) : ps_S := (ps_num M 1 8 (pt5 M S)).2
def pt7 (M : Nat → Nat → Int32) (S : ps_S) : ps_S := ps_set (pt6 M S) (20 + ps_st S) (pt6 M S).2.2.2.2
def pt8 (M : Nat → Nat → Int32) (S : ps_S) : ps_S := (ps_takes M 44 (pt7 M S)).2
def pt9 (M : Nat → Nat → Int32) (S : ps_S) : ps_S := (ps_num M 0 20 (pt8 M S)).2
def pt10 (M : Nat → Nat → Int32) (S : ps_S) : ps_S := ps_set (ps_set (pt9 M S) (26 + ps_st S) (pt9 M S).2.2.2.2) 3 (nI (ps_st S + 1))
def ps_stall (M : Nat → Nat → Int32) (S : ps_S) : Int32 × ps_S :=
  if hs_sort (hs_byte M S.2.1) = 0 then (0, pt0 S) else if S.1 3 = 6 then (0, ps_f (pt1 S) 3) else if (ps_num M 0 (S.1 2 - 1) (pt2 M S)).1 = 0 then (0, pt3 M S) else
  if (ps_takes M 44 (pt4 M S)).1 = 0 then (0, pt5 M S) else if (ps_num M 1 8 (pt5 M S)).1 = 0 then (0, pt6 M S) else
  if hs_who (pt6 M S).1 ((pt6 M S).1 (14 + ps_st S)) (pt6 M S).2.2.2.2 (ps_st S) < 0 then
    (if (ps_takes M 44 (pt7 M S)).1 = 0 then (0, pt8 M S) else if (ps_num M 0 20 (pt8 M S)).1 = 0 then (0, pt9 M S) else ps_takes M 59 (pt10 M S)) else (0, pt6 M S)
theorem hs_who_c {g h : Nat → Int32} (rope place : Int32) : ∀ n, n ≤ 6 → (∀ j, j < 50 → g j = h j) → hs_who g rope place n = hs_who h rope place n := by
  intro n
  induction n with
  | zero => intro _ _; rfl
  | succ n ih =>
    intro hn e
    simp only [hs_who]
    rw [ih (by omega) e, e (14 + n) (by omega), e (20 + n) (by omega)]
theorem hs_sort_p {M : Nat → Nat → Int32} {t p : Nat} (ht : M 9 0 = nI t) (ht1 : t ≤ 100) (h : ¬ hs_sort (hs_byte M p) = 0) : p < t := by
  rcases Nat.lt_or_ge p t with q | q
  · exact q
  · exfalso
    apply h
    unfold hs_byte
    rw [ht, nI_clamp (by omega), if_neg (by omega)]
    decide
theorem mo_ps_set (M : Nat → Nat → Int32) (S : ps_S) (x : Int32) {j : Nat} (hj : j < 50) : mo_w (mo_ps M S) 0 (150 + j) x = mo_ps M (ps_set S j x) := mo_rd_0 _ _ _ _ _ _ _ hj
theorem mo_ps_f (M : Nat → Nat → Int32) (S : ps_S) (x : Int32) : mo_w (mo_ps M S) 13 0 x = mo_ps M (ps_f S x) := mo_rd_13 _ _ _ _ _ _ _
theorem mo_ps_p (M : Nat → Nat → Int32) (S : ps_S) (q : Nat) : mo_w (mo_ps M S) 11 0 (nI q) = mo_ps M (S.1, q, S.2.2) := mo_rd_11 _ _ _ _ _ _ _
theorem mo_ps_s (M : Nat → Nat → Int32) (S : ps_S) (q : Nat) : mo_w (mo_ps M S) 12 0 (nI q) = mo_ps M (S.1, S.2.1, q, S.2.2.2) := mo_rd_12 _ _ _ _ _ _ _
theorem mo_ps_at (M : Nat → Nat → Int32) (S : ps_S) {j : Nat} (hj : j < 50) : mo_ps M S 0 (150 + j) = S.1 j := mo_rd_at _ _ _ _ _ _ hj
theorem mo_ps_g11 (ma : Nat → Nat) (M : Nat → Nat → Int32) (S : ps_S) : (mo_fs ma (mo_ps M S))[11]? = some (.int (nI S.2.1)) := rfl
theorem mo_ps_g12 (ma : Nat → Nat) (M : Nat → Nat → Int32) (S : ps_S) : (mo_fs ma (mo_ps M S))[12]? = some (.int (nI S.2.2.1)) := rfl
theorem mo_ps_g13 (ma : Nat → Nat) (M : Nat → Nat → Int32) (S : ps_S) : (mo_fs ma (mo_ps M S))[13]? = some (.int S.2.2.2.1) := rfl
theorem mo_ps_g14 (ma : Nat → Nat) (M : Nat → Nat → Int32) (S : ps_S) : (mo_fs ma (mo_ps M S))[14]? = some (.int S.2.2.2.2) := rfl
theorem mo_ps_g0 (ma : Nat → Nat) (M : Nat → Nat → Int32) (S : ps_S) : (mo_fs ma (mo_ps M S))[0]? = some (.ref (ma 0)) := rfl
theorem mo_ps_g9 (ma : Nat → Nat) (M : Nat → Nat → Int32) (S : ps_S) : (mo_fs ma (mo_ps M S))[9]? = some (.int (M 9 0)) := rfl
theorem mo_ps_9 {M : Nat → Nat → Int32} {t : Nat} (ht : M 9 0 = nI t) (S : ps_S) : mo_ps M S 9 0 = nI t := ht
theorem ps_set_le {S : ps_S} {t j : Nat} {x : Int32} (h : S.2.1 ≤ t) : (ps_set S j x).2.1 ≤ t := h
theorem ps_f_le {S : ps_S} {t : Nat} {x : Int32} (h : S.2.1 ≤ t) : (ps_f S x).2.1 ≤ t := h
theorem ps_set_1 (S : ps_S) (j : Nat) (x : Int32) : (ps_set S j x).1 = va_up S.1 j x := rfl
theorem pt1_le {S : ps_S} {t : Nat} (h : S.2.1 < t) : (pt1 S).2.1 ≤ t := h
theorem pt1_1 (S : ps_S) : (pt1 S).1 = S.1 := rfl
