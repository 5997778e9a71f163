def mo_mk (M : Nat → Nat → Int32) (S : ps_S) : Nat → Nat → Int32 := mo_w (mo_ps M S) 9 0 0
def sp_market (M : Nat → Nat → Int32) (t s0 : Nat) : sp_S :=
  if (ps_market M t s0).1 = 0 then (-1000100 - nI (ps_market M t s0).2.2.2.1, mo_w (mo_mk M (ps_market M t s0).2) 10 0 (ps_market M t s0).2.2.2.2.1) else
    ((ps_market M t s0).2.1 3, mo_w (mo_w (va_up (mo_mk M (ps_market M t s0).2) 0 (hs_blk (mo_mk M (ps_market M t s0).2 0) 0 150 50)) 0 4 1) 1 0 0)
theorem mo_mk_3 (M : Nat → Nat → Int32) (S : ps_S) : mo_w (mo_w (va_up (mo_mk M S) 0 (hs_blk (mo_mk M S 0) 0 150 50)) 0 4 1) 1 0 0 0 3 = S.1 3 := by
  show va_up (hs_blk (hs_ov (M 0) S.1) 0 150 50) 4 1 3 = S.1 3
  rw [va_up_ne _ _ (by decide)]
  rfl
theorem mo_mk_12 (M : Nat → Nat → Int32) (S : ps_S) (x : Int32) : mo_w (mo_mk M S) 10 0 x 12 0 = nI S.2.2.1 := rfl
theorem mo_mk_13 (M : Nat → Nat → Int32) (S : ps_S) : mo_mk M S 13 0 = S.2.2.2.1 := rfl
