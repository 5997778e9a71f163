/-! what the class's questions answer -/
def cq_stall (g : Nat → Int32) (n : Nat) (s what : Int32) : Int32 :=
  if hs_isSt g s = 0 then hs_BAD else if what = 0 then g (14 + s.toNatClampNeg) else if what = 1 then g (20 + s.toNatClampNeg) else if what = 2 then g (26 + s.toNatClampNeg) else if what = 3 then g (32 + s.toNatClampNeg) else if what = 4 then g (38 + s.toNatClampNeg) else if what = 5 then (if g (44 + s.toNatClampNeg) = 0 then 0 else 1) else
  if what = 6 then hs_weight g s.toNatClampNeg else if what = 7 then hs_deep g n s.toNatClampNeg else if what = 8 then hs_price g n s.toNatClampNeg else hs_BAD
def cq_std (g : Nat → Int32) (n : Nat) (rope place : Int32) : Int32 := match mk_std g rope place n with
  | none => hs_NONE
  | some j => nI j
theorem cq_std_n {g : Nat → Int32} {n : Nat} {rope place : Int32} (h : mk_std g rope place n = none) : cq_std g n rope place = hs_NONE := by unfold cq_std; rw [h]
theorem cq_std_s {g : Nat → Int32} {n j : Nat} {rope place : Int32} (h : mk_std g rope place n = some j) : cq_std g n rope place = nI j := by unfold cq_std; rw [h]
def cq_rope (g : Nat → Int32) (n : Nat) (rope place what : Int32) : Int32 :=
  if hs_isRo g rope = 0 ∨ hs_in place 1 8 = 0 then hs_BAD else if what = 0 then hs_sag g n rope place else if what = 1 then hs_depth g n rope place else if what = 2 then g (5 + rope.toNatClampNeg) else if what = 3 then cq_std g n rope place else hs_BAD
def cq_drops (g : Nat → Int32) (n : Nat) : Int32 := if g 2 = 0 then hs_STATE else hs_drop g n n
def cs_as (C : Nat → Nat → Int32) (g : Nat → Int32) (one kind : Int32) : sp_S :=
  if hs_isSt g one = 0 ∨ hs_in kind 0 5 = 0 then (hs_BAD, C) else if hs_isof (g (8 + one.toNatClampNeg)) kind = 0 then sp_found C 3 else sp_well C one
def ms_sr (g : Nat → Int32) (i : Nat) : Int32 := if g (8 + i) = 2 then -(g (26 + i) + ms_mr g i) else if g (8 + i) = 4 ∨ g (8 + i) = 5 then ms_ns g i else g (26 + i) + ms_mr g i
def ms_sc (C : Nat → Nat → Int32) (k : Int32) : Nat → Nat → Int32 := if k = 2 then ms_mc (sp_leave (sp_leave (sp_leave C 12) 11) 10) k else if k = 4 ∨ k = 5 then ms_nc C k else ms_mc (sp_leave (sp_leave C 11) 10) k
def ms_kr (g : Nat → Int32) (i : Nat) : Int32 := if g (8 + i) = 4 ∨ g (8 + i) = 5 then nI i - ms_ns g i else ms_mr g i
def ms_kc (C : Nat → Nat → Int32) (k : Int32) : Nat → Nat → Int32 := if k = 4 ∨ k = 5 then ms_nc (sp_leave (sp_leave C 23) 20) k else ms_mc C k
def cs_ask (C : Nat → Nat → Int32) (g : Nat → Int32) (one what : Int32) : sp_S :=
  if hs_isSt g one = 0 ∨ hs_in what 0 1 = 0 then (hs_BAD, C) else if what = 0 then (ms_sr g one.toNatClampNeg, ms_sc (mo_w C 18 0 0) (g (8 + one.toNatClampNeg))) else (ms_kr g one.toNatClampNeg, ms_kc (mo_w C 18 0 0) (g (8 + one.toNatClampNeg)))
def cq_walkway (g : Nat → Int32) (n : Nat) (a b : Int32) : Int32 :=
  if hs_isSt g a = 0 ∨ hs_isSt g b = 0 ∨ a = b then hs_BAD else if mk_joins g a.toNatClampNeg b.toNatClampNeg = 0 then 0 else if mk_meets g n a.toNatClampNeg b.toNatClampNeg = 0 then 1 else 2
def cq_walkways (g : Nat → Int32) (n : Nat) (what : Int32) : Int32 := if g 2 = 0 then hs_STATE else if hs_in what 0 1 = 0 then hs_BAD else mk_w g n (if what = 1 then 1 else 0) n
def cq_even (g : Nat → Int32) (n : Nat) (a b what : Int32) : Int32 :=
  if hs_isSt g a = 0 ∨ hs_isSt g b = 0 ∨ a = b ∨ hs_in what 0 1 = 0 then hs_BAD else if mk_joins g a.toNatClampNeg b.toNatClampNeg = 0 then hs_STATE else mk_ev g n a.toNatClampNeg b.toNatClampNeg what 19
def cq_best (g : Nat → Int32) (n : Nat) (what : Int32) : Int32 := if g 2 = 0 then hs_STATE else if hs_in what 0 1 = 0 then hs_BAD else if what = 0 then (mk_sl g n n).1 else (mk_sl g n n).2
def cs_unloaded (C : Nat → Nat → Int32) (g : Nat → Int32) (n : Nat) (k : Int32) : sp_S :=
  if g 2 = 0 then (hs_STATE, C) else if k < -1 ∨ ¬ k < 6 then (hs_BAD, C) else
    (if k = -1 then mk_cod g n (mk_to g n) (C 20) 64 0 else if mk_cod g n (mk_to g n) (C 20) 64 0 = 0 then hs_NONE else mk_ifo (mk_cod g n (mk_to g n) (C 20) 64) (mk_to g n) k.toNatClampNeg 0, va_up C 20 (mk_cod g n (mk_to g n) (C 20) 64))
def cs_whoCut (C : Nat → Nat → Int32) (g : Nat → Int32) (n : Nat) (row x : Int32) : sp_S :=
  if g 2 = 0 then (hs_STATE, C) else if hs_row row = 0 then (hs_BAD, C) else if ¬ mk_mis (C 3 row.toNatClampNeg) = 0 then sp_found C 1 else if mk_has (C 4 row.toNatClampNeg) x (g 3) = 0 then sp_found C 2 else
    sp_well C (mk_cuts g n (C 5) (40 * row.toNatClampNeg + x.toNatClampNeg) 3)
def cs_reads (C : Nat → Nat → Int32) (g : Nat → Int32) (n : Nat) (a b row x what : Int32) : sp_S :=
  if hs_isSt g a = 0 ∨ hs_isSt g b = 0 ∨ a = b ∨ hs_row row = 0 ∨ hs_in what 0 1 = 0 then (hs_BAD, C) else if ¬ mk_mis (C 3 row.toNatClampNeg) = 0 then sp_found C 1 else if mk_has (C 4 row.toNatClampNeg) x (g 3) = 0 then sp_found C 2 else
    sp_well C (if what = 0 then (mk_rr2 g n (C 5) (40 * row.toNatClampNeg + x.toNatClampNeg) a.toNatClampNeg b.toNatClampNeg 21).1 else (mk_rr2 g n (C 5) (40 * row.toNatClampNeg + x.toNatClampNeg) a.toNatClampNeg b.toNatClampNeg 21).2)
def cq_holds (g : Nat → Int32) (n : Nat) (rope : Int32) : Int32 := if hs_isRo g rope = 0 then hs_BAD else mk_lt g n rope.toNatClampNeg 40
def cq_falls (g : Nat → Int32) (n : Nat) (what : Int32) : Int32 := if g 2 = 0 then hs_STATE else if hs_in what 0 1 = 0 then hs_BAD else mk_rd g n what 100
def cq_dearest (g : Nat → Int32) (n : Nat) (s : Int32) : Int32 := if hs_isSt g s = 0 then hs_BAD else (mk_dear g n s.toNatClampNeg 8).1
def cq_rented (g : Nat → Int32) (n : Nat) (s a b : Int32) : Int32 :=
  if hs_isSt g s = 0 ∨ hs_isSt g a = 0 ∨ hs_isSt g b = 0 ∨ a = b then hs_BAD else if hs_isof (g (8 + s.toNatClampNeg)) 4 = 0 ∨ mk_joins g a.toNatClampNeg b.toNatClampNeg = 0 ∨ s = a ∨ s = b then hs_STATE else mk_rent g n s.toNatClampNeg a.toNatClampNeg b.toNatClampNeg 8
theorem mk_has_1 {s x k : Int32} (h : ¬ mk_has s x k = 0) : mk_has s x k = 1 := if_pos (hs_if1 h)
theorem hs_isof_b (a b : Int32) : hs_isof a b = 0 ∨ hs_isof a b = 1 := by unfold hs_isof; split <;> simp
theorem hs_ge0 {k : Int32} (h1 : ¬ k < -1) (h2 : ¬ k = -1) : ¬ k < 0 := by
  intro h
  rw [Int32.lt_iff_toInt_lt] at h h1
  have e0 : (0 : Int32).toInt = 0 := rfl
  have e1 : (-1 : Int32).toInt = -1 := rfl
  exact h2 (Int32.toInt_inj.mp (by omega))
theorem cs_unl_s {C : Nat → Nat → Int32} {g : Nat → Int32} {n : Nat} {k : Int32} (h1 : ¬ g 2 = 0) (h2 : ¬ k < -1) (h3 : k < 6) (h4 : ¬ k = -1) : (cs_unloaded C g n k).1 = if mk_cod g n (mk_to g n) (C 20) 64 0 = 0 then hs_NONE else mk_ifo (mk_cod g n (mk_to g n) (C 20) 64) (mk_to g n) k.toNatClampNeg 0 := by
  rw [cs_unloaded, if_neg h1, if_neg (fun q => q.elim h2 (fun q => q h3)), if_neg h4]
