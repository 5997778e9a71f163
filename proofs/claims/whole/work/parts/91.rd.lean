/-! THE TAPE's reader, the class's way: a law, a rope, a stall, all -/
def cr_l1 (C : Nat → Nat → Int32) : Nat → Nat → Int32 := mk_pass C 109
def cr_l2 (C : Nat → Nat → Int32) : sp_S := mk_number (cr_l1 C) 0 99
def cr_l3 (C : Nat → Nat → Int32) : Nat → Nat → Int32 := mk_pass (cr_l2 C).2 44
def cr_l4 (C : Nat → Nat → Int32) : sp_S := mk_number (cr_l3 C) 0 20
def cr_law (C : Nat → Nat → Int32) : Nat → Nat → Int32 := mk_pass (cr_l4 C).2 59
def cr_r0 (C : Nat → Nat → Int32) (g : Nat → Int32) : Nat → Nat → Int32 := if g 2 = 3 then mk_tf C 3 (C 24 0) else C
def cr_r1 (C : Nat → Nat → Int32) (g : Nat → Int32) : Nat → Nat → Int32 := mk_pass (cr_r0 C g) 108
def cr_r2 (C : Nat → Nat → Int32) (g : Nat → Int32) : sp_S := mk_number (cr_r1 C g) 1 20
def cr_rope (C : Nat → Nat → Int32) (g : Nat → Int32) : Nat → Nat → Int32 := mk_pass (cr_r2 C g).2 59
def cr_rg (C : Nat → Nat → Int32) (g : Nat → Int32) (nr : Nat) : Nat → Int32 := if cr_rope C g 25 0 = 0 then va_up (va_up g (5 + nr) (cr_r2 C g).1) 2 (nI (nr + 1)) else g
def cr_rn (C : Nat → Nat → Int32) (g : Nat → Int32) (nr : Nat) : Nat := if cr_rope C g 25 0 = 0 then nr + 1 else nr
def cr_k (C : Nat → Nat → Int32) : Int32 := mk_kind (mk_by C (C 24 0))
def cr_a (C : Nat → Nat → Int32) (g : Nat → Int32) : Nat → Nat → Int32 := if cr_k C = hs_NONE then mk_tf C 1 (C 24 0) else if g 3 = 6 then mk_tf C 3 (C 24 0) else C
def cr_b (C : Nat → Nat → Int32) (g : Nat → Int32) : Nat → Nat → Int32 := mo_w (cr_a C g) 24 0 (cr_a C g 24 0 + 1)
def cr_c (C : Nat → Nat → Int32) (g : Nat → Int32) : sp_S := mk_number (cr_b C g) 0 (g 2 - 1)
def cr_d (C : Nat → Nat → Int32) (g : Nat → Int32) : Nat → Nat → Int32 := mk_pass (cr_c C g).2 44
def cr_e (C : Nat → Nat → Int32) (g : Nat → Int32) : sp_S := mk_number (cr_d C g) 1 8
def cr_f (C : Nat → Nat → Int32) (g : Nat → Int32) (n : Nat) : Nat → Nat → Int32 := if mk_std g (cr_c C g).1 (cr_e C g).1 n = none then (cr_e C g).2 else mk_tf (cr_e C g).2 2 (cr_d C g 24 0)
def cr_g (C : Nat → Nat → Int32) (g : Nat → Int32) (n : Nat) : Nat → Nat → Int32 := mk_pass (cr_f C g n) 44
def cr_h (C : Nat → Nat → Int32) (g : Nat → Int32) (n : Nat) : sp_S := mk_number (cr_g C g n) 0 20
def cr_s (C : Nat → Nat → Int32) (g : Nat → Int32) (n : Nat) : Nat → Nat → Int32 := mk_pass (cr_h C g n).2 59
def cr_sg (C : Nat → Nat → Int32) (g : Nat → Int32) (n : Nat) : Nat → Int32 := if cr_s C g n 25 0 = 0 then mk_as g n (cr_k C) (cr_c C g).1 (cr_e C g).1 (cr_h C g n).1 else g
def cr_sn (C : Nat → Nat → Int32) (g : Nat → Int32) (n : Nat) : Nat := if cr_s C g n 25 0 = 0 then n + 1 else n
theorem cr_s_n {C : Nat → Nat → Int32} {g : Nat → Int32} {n : Nat} (h : mk_std g (cr_c C g).1 (cr_e C g).1 n = none) : mk_pass (mk_number (mk_pass (cr_e C g).2 44) 0 20).2 59 = cr_s C g n := by
  unfold cr_s cr_h cr_g cr_f
  rw [if_pos h]
theorem cr_s_s {C : Nat → Nat → Int32} {g : Nat → Int32} {n j : Nat} (h : mk_std g (cr_c C g).1 (cr_e C g).1 n = some j) : mk_pass (mk_number (mk_pass (mk_tf (cr_e C g).2 2 (cr_d C g 24 0)) 44) 0 20).2 59 = cr_s C g n := by
  unfold cr_s cr_h cr_g cr_f
  rw [if_neg (by rw [h]; exact fun q => nomatch q)]
theorem cr_h_n {C : Nat → Nat → Int32} {g : Nat → Int32} {n : Nat} (h : mk_std g (cr_c C g).1 (cr_e C g).1 n = none) : mk_number (mk_pass (cr_e C g).2 44) 0 20 = cr_h C g n := by
  unfold cr_h cr_g cr_f
  rw [if_pos h]
