/-- all: so many ropes, so many stalls -/
abbrev cr_R : Type := (Nat → Nat → Int32) × (Nat → Int32) × Nat × Nat
def cr_rp (X : cr_R) : cr_R := (cr_rope X.1 X.2.1, cr_rg X.1 X.2.1 X.2.2.1, cr_rn X.1 X.2.1 X.2.2.1, X.2.2.2)
def cr_st (X : cr_R) : cr_R := (cr_s X.1 X.2.1 X.2.2.2, cr_sg X.1 X.2.1 X.2.2.2, X.2.2.1, cr_sn X.1 X.2.1 X.2.2.2)
def cr_rs (X : cr_R) : Nat → cr_R
  | 0 => X
  | k + 1 => if (cr_rs X k).1 25 0 = 0 ∧ (k = 0 ∨ mk_by (cr_rs X k).1 ((cr_rs X k).1 24 0) = 108) then cr_rp (cr_rs X k) else cr_rs X k
def cr_ss (X : cr_R) : Nat → cr_R
  | 0 => X
  | k + 1 => if (cr_ss X k).1 25 0 = 0 ∧ (cr_ss X k).1 24 0 < (cr_ss X k).1 9 0 then cr_st (cr_ss X k) else cr_ss X k
