/-- k steps are done: what is taken, who came last -/
def mk_ifI (o : Nat → Int32) (to : Int32) (kk : Nat) (tk nx : Int32) (k : Nat) : Prop := if k = kk + 1 then nx = mk_ifo o to kk 0 else mk_ifo o to (kk - k) tk = mk_ifo o to kk 0
theorem mk_ifI_0 (o : Nat → Int32) (to : Int32) (kk : Nat) : mk_ifI o to kk 0 hs_NONE 0 := by
  unfold mk_ifI
  rw [if_neg (by omega)]
  rfl
theorem mk_ifI_e {o : Nat → Int32} {to tk nx : Int32} {kk : Nat} (h : mk_ifI o to kk tk nx (kk + 1)) : nx = mk_ifo o to kk 0 := by
  unfold mk_ifI at h
  rw [if_pos rfl] at h
  exact h
theorem mk_ifI_n {o : Nat → Int32} {to tk nx : Int32} {kk k : Nat} (hk : k ≤ kk) (h : mk_ifI o to kk tk nx k) (h1 : mk_nd o to tk hs_NONE 6 = hs_NONE) : hs_NONE = mk_ifo o to kk 0 := by
  unfold mk_ifI at h
  rw [if_neg (by omega)] at h
  rw [← h]
  cases e : kk - k with
  | zero => exact h1.symm
  | succ j => rw [mk_ifo, if_pos h1]
theorem mk_ifo_s {o : Nat → Int32} {to tk nx : Int32} {kk k : Nat} (hk : k ≤ kk) (h : mk_ifI o to kk tk nx k) (h1 : ¬ mk_nd o to tk hs_NONE 6 = hs_NONE) : mk_ifI o to kk (tk ||| ((1 : Int32) <<< (mk_nd o to tk hs_NONE 6 &&& 31))) (mk_nd o to tk hs_NONE 6) (k + 1) := by
  unfold mk_ifI at h ⊢
  rw [if_neg (by omega)] at h
  by_cases e : k + 1 = kk + 1
  · rw [if_pos e, ← h, show kk - k = 0 by omega]
    rfl
  · rw [if_neg e, ← h, show kk - k = (kk - (k + 1)) + 1 by omega, mk_ifo, if_neg h1]
