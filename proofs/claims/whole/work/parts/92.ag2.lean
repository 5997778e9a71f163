/-! who drops: the first, or the bits -/
theorem ag_lowB : ∀ k, k < 6 → ∀ d, d < 2 ^ k → (0 < d → hs_low (nI (d + 2 ^ k)) = hs_low (nI d)) ∧ hs_low (nI (2 ^ k)) = k := by decide +kernel
theorem ag_fd (g : Nat → Int32) (n : Nat) : ∀ k, k ≤ 6 → (hs_dropN g n k = 0 ∧ mk_fd g n k = hs_NONE) ∨ (0 < hs_dropN g n k ∧ mk_fd g n k = nI (hs_low (nI (hs_dropN g n k))) ∧ hs_low (nI (hs_dropN g n k)) ≤ 5) := by
  intro k
  induction k with
  | zero => intro _; exact Or.inl ⟨rfl, rfl⟩
  | succ k ih =>
    intro hk
    have h2 := (hs_drop_n g n k (by omega)).2
    have hp : 0 < 2 ^ k := Nat.two_pow_pos k
    rw [hs_dropN, mk_fd]
    rcases ih (by omega) with ⟨a1, a2⟩ | ⟨a1, a2, a3⟩
    · rw [if_pos a2]
      by_cases c : g 0 < hs_deep g n k
      · rw [if_pos c, if_pos c, a1, Nat.zero_add, (ag_lowB k (by omega) 0 hp).2]
        exact Or.inr ⟨hp, rfl, by omega⟩
      · rw [if_neg c, if_neg c, a1]
        exact Or.inl ⟨rfl, rfl⟩
    · have hN : ¬ mk_fd g n k = hs_NONE := by rw [a2]; exact mk_nN (by omega)
      rw [if_neg hN]
      by_cases c : g 0 < hs_deep g n k
      · rw [if_pos c, (ag_lowB k (by omega) _ h2).1 a1]
        exact Or.inr ⟨by omega, a2, a3⟩
      · rw [if_neg c, Nat.add_zero]
        exact Or.inr ⟨a1, a2, a3⟩
theorem ag_fd0 {g : Nat → Int32} {n : Nat} (hn : n ≤ 6) : mk_fd g n n = hs_NONE ↔ hs_drop g n n = 0 := by
  obtain ⟨e, lt⟩ := hs_drop_n g n n hn
  have h64 : hs_dropN g n n < 64 := Nat.lt_of_lt_of_le lt (Nat.le_trans (Nat.pow_le_pow_right (by decide) hn) (by decide))
  rw [e]
  rcases ag_fd g n n hn with ⟨a1, a2⟩ | ⟨a1, a2, a3⟩
  · rw [a1, a2]
    exact ⟨fun _ => rfl, fun _ => rfl⟩
  · rw [a2]
    exact ⟨fun z => absurd z (mk_nN (by omega)), fun z => absurd z (nI_ne0 a1 (by omega))⟩
theorem ag_fd1 {g : Nat → Int32} {n : Nat} (hn : n ≤ 6) (h : ¬ hs_drop g n n = 0) : mk_fd g n n = nI (hs_low (hs_drop g n n)) ∧ hs_low (hs_drop g n n) ≤ 5 := by
  obtain ⟨e, lt⟩ := hs_drop_n g n n hn
  rw [e] at h ⊢
  rcases ag_fd g n n hn with ⟨a1, a2⟩ | ⟨a1, a2, a3⟩
  · exact absurd (by rw [a1]; rfl) h
  · exact ⟨a2, a3⟩
theorem ag_nN {k : Nat} (h : k < 2147483648) : ¬ nI k = hs_NONE := by
  intro q
  have := congrArg Int32.toInt q
  rw [nI_toInt (by omega)] at this
  have e : hs_NONE.toInt = -1000000 := by decide
  omega
/-- holds -/
theorem ag_hold {g : Nat → Int32} {n r : Nat} (hn : n ≤ 6) : ∀ k, k ≤ 40 → (if mk_lt g n r (40 - k) = hs_NONE then hs_hold g n r k else mk_lt g n r (40 - k)) = mk_lt g n r 40 := by
  intro k
  induction k with
  | zero =>
    intro _
    show (if mk_lt g n r 40 = hs_NONE then hs_NONE else mk_lt g n r 40) = mk_lt g n r 40
    split
    · rename_i c; exact c.symm
    · rfl
  | succ k ih =>
    intro hk
    have ih := ih (by omega)
    have e : 40 - k = (40 - (k + 1)) + 1 := by omega
    rw [e] at ih
    rw [mk_lt] at ih
    rw [hs_hold, show nI (40 - k) = nI (40 - (k + 1) + 1) by rw [e]]
    by_cases c : mk_lt g n r (40 - (k + 1)) = hs_NONE
    · rw [if_pos c] at ih ⊢
      by_cases c2 : hs_drop (va_up g (5 + r) (nI (40 - (k + 1) + 1))) n n = 0
      · rw [if_pos ((ag_fd0 hn).mpr c2)] at ih
        rw [if_neg (ag_nN (by omega))] at ih
        rw [if_pos c2]
        exact ih
      · rw [if_neg (fun z => c2 ((ag_fd0 hn).mp z)), if_pos rfl] at ih
        rw [if_neg c2]
        exact ih
    · rw [if_neg c] at ih ⊢
      rw [if_neg c] at ih
      exact ih
theorem ag_holds {g : Nat → Int32} {n : Nat} (hn : n ≤ 6) (rope : Int32) : cq_holds g n rope = q_holds g n rope := by
  unfold cq_holds q_holds
  have h := ag_hold (g := g) (r := rope.toNatClampNeg) hn 40 (Nat.le_refl 40)
  rw [← h]
  have : mk_lt g n rope.toNatClampNeg (40 - 40) = hs_NONE := rfl
  rw [if_pos this]
/-- falls -/
def ag_ff (g : Nat → Int32) (n : Nat) (what : Int32) (q : Nat) : Int32 := if hs_drop (va_up g 1 (g 1 + nI q)) n n = 0 then hs_NONE else if what = 0 then nI q else nI (hs_low (hs_drop (va_up g 1 (g 1 + nI q)) n n))
theorem ag_fall {g : Nat → Int32} {n : Nat} (hn : n ≤ 6) (what : Int32) : ∀ q, q ≤ 100 → ∀ best, hs_fall g n what best q = if mk_rd g n what q = hs_NONE then best else mk_rd g n what q := by
  intro q
  induction q with
  | zero =>
    intro _ best
    have e : mk_rd g n what 0 = hs_NONE := rfl
    rw [if_pos e]
    rfl
  | succ q ih =>
    intro hq best
    rw [hs_fall, ih (by omega), mk_rd]
    by_cases c : mk_rd g n what q = hs_NONE
    · rw [if_pos c, if_pos c]
      by_cases c2 : hs_drop (va_up g 1 (g 1 + nI q)) n n = 0
      · rw [if_pos c2, if_pos ((ag_fd0 hn).mpr c2), if_pos rfl]
      · obtain ⟨k1, k2⟩ := ag_fd1 hn c2
        rw [if_neg c2, if_neg (fun z => c2 ((ag_fd0 hn).mp z)), k1]
        have h3 : ¬ (if what = 0 then nI q else nI (hs_low (hs_drop (va_up g 1 (g 1 + nI q)) n n))) = hs_NONE := by
          split
          · exact ag_nN (by omega)
          · exact ag_nN (by omega)
        rw [if_neg h3]
    · rw [if_neg c, if_neg c, if_neg c]
theorem ag_falls {g : Nat → Int32} {n : Nat} (hn : n ≤ 6) (what : Int32) (h4 : g 4 = 0 ↔ g 2 = 0) : cq_falls g n what = q_falls g n what := by
  unfold cq_falls q_falls
  rw [ag_fall hn what 100 (Nat.le_refl _)]
  by_cases c : g 2 = 0
  · rw [if_pos c, if_pos (h4.mpr c)]
  · rw [if_neg c, if_neg (fun z => c (h4.mp z))]
    by_cases c2 : hs_in what 0 1 = 0
    · rw [if_pos c2, if_pos c2]
    · rw [if_neg c2, if_neg c2]
      by_cases c3 : mk_rd g n what 100 = hs_NONE
      · rw [if_pos c3, c3]
      · rw [if_neg c3]
/-- who stands there: the first, or the last -/
theorem ag_who (g : Nat → Int32) (rope place : Int32) : ∀ k, k ≤ 6 → (mk_std g rope place k = none ∧ hs_who g rope place k = -1) ∨ (∃ j i : Nat, j < k ∧ i < k ∧ mk_std g rope place k = some j ∧ hs_who g rope place k = nI i ∧ g (14 + j) = rope ∧ g (20 + j) = place ∧ g (14 + i) = rope ∧ g (20 + i) = place) := by
  intro k
  induction k with
  | zero => intro _; exact Or.inl ⟨rfl, rfl⟩
  | succ k ih =>
    intro hk
    have hw : hs_who g rope place (k + 1) = if g (14 + k) = rope ∧ g (20 + k) = place then nI k else hs_who g rope place k := rfl
    have hs : mk_std g rope place (k + 1) = match mk_std g rope place k with
      | some j => some j
      | none => if g (14 + k) = rope ∧ g (20 + k) = place then some k else none := rfl
    rcases ih (by omega) with ⟨a1, a2⟩ | ⟨j, i, b1, b2, b3, b4, b5, b6, b7, b8⟩
    · rw [a1] at hs
      have hs : mk_std g rope place (k + 1) = if g (14 + k) = rope ∧ g (20 + k) = place then some k else none := hs
      by_cases c : g (14 + k) = rope ∧ g (20 + k) = place
      · rw [if_pos c] at hw hs
        exact Or.inr ⟨k, k, by omega, by omega, hs, hw, c.1, c.2, c.1, c.2⟩
      · rw [if_neg c] at hw hs
        exact Or.inl ⟨hs, hw.trans a2⟩
    · rw [b3] at hs
      have hs : mk_std g rope place (k + 1) = some j := hs
      by_cases c : g (14 + k) = rope ∧ g (20 + k) = place
      · rw [if_pos c] at hw
        exact Or.inr ⟨j, k, by omega, by omega, hs, hw, b5, b6, c.1, c.2⟩
      · rw [if_neg c] at hw
        exact Or.inr ⟨j, i, by omega, by omega, hs, hw.trans b4, b5, b6, b7, b8⟩
theorem ag_who_n {g : Nat → Int32} {n : Nat} (hn : n ≤ 6) (rope place : Int32) : mk_std g rope place n = none ↔ hs_who g rope place n < 0 := by
  rcases ag_who g rope place n hn with ⟨a1, a2⟩ | ⟨j, i, b1, b2, b3, b4, -⟩
  · rw [a1, a2]
    exact ⟨fun _ => by decide, fun _ => rfl⟩
  · rw [b3, b4]
    exact ⟨fun z => (by cases z), fun z => absurd z (nI_pos (n := i) (by omega))⟩
/-- each place of a rope holds one stall at most -/
def ag_U (g : Nat → Int32) (n : Nat) : Prop := ∀ i j, i < n → j < n → g (14 + i) = g (14 + j) → g (20 + i) = g (20 + j) → i = j
theorem ag_who_s {g : Nat → Int32} {n j : Nat} (hn : n ≤ 6) (hu : ag_U g n) {rope place : Int32} (h : mk_std g rope place n = some j) : hs_who g rope place n = nI j ∧ j < n := by
  rcases ag_who g rope place n hn with ⟨a1, a2⟩ | ⟨j', i, b1, b2, b3, b4, b5, b6, b7, b8⟩
  · rw [a1] at h; exact absurd h (by simp)
  · rw [b3] at h
    have e : j' = j := by simpa using h
    subst e
    have := hu j' i b1 b2 (b5.trans b7.symm) (b6.trans b8.symm)
    subst this
    exact ⟨b4, b1⟩
theorem ag_std {g : Nat → Int32} {n : Nat} (hn : n ≤ 6) (hu : ag_U g n) (rope place : Int32) : cq_std g n rope place = if hs_who g rope place n < 0 then hs_NONE else hs_who g rope place n := by
  cases h : mk_std g rope place n with
  | none => rw [cq_std_n h, if_pos ((ag_who_n hn rope place).mp h)]
  | some j =>
    obtain ⟨k1, k2⟩ := ag_who_s hn hu h
    rw [cq_std_s h, k1, if_neg (nI_pos (by omega))]
theorem ag_can {g : Nat → Int32} {n i : Nat} (hn : n ≤ 6) (hu : ag_U g n) (hi : i < n) (place : Int32) : ¬ mk_can g n i place = 0 ↔ (hs_who g (g (14 + i)) place n < 0 ∨ hs_who g (g (14 + i)) place n = nI i) := by
  cases h : mk_std g (g (14 + i)) place n with
  | none =>
    rw [mk_can_n h]
    exact ⟨fun _ => Or.inl ((ag_who_n hn _ _).mp h), fun _ => by decide⟩
  | some j =>
    obtain ⟨k1, k2⟩ := ag_who_s hn hu h
    rw [mk_can_s h, k1, hs_if10]
    constructor
    · intro z; exact Or.inr (Classical.not_not.mp z)
    · rintro (z | z)
      · exact absurd z (nI_pos (by omega))
      · exact fun q => q z
theorem ag_price0 (g : Nat → Int32) (n j : Nat) : ¬ hs_price g n j < 0 := by
  unfold hs_price
  split
  · decide
  · assumption
theorem ag_lt_none {v : Int32} (h : ¬ v < 0) : hs_NONE < v ∧ -1 < v := by
  rw [Int32.lt_iff_toInt_lt] at h
  have e0 : (0 : Int32).toInt = 0 := rfl
  have e1 : (-1 : Int32).toInt = -1 := rfl
  have e2 : hs_NONE.toInt = -1000000 := by decide
  rw [Int32.lt_iff_toInt_lt, Int32.lt_iff_toInt_lt, e1, e2]
  omega
/-- dearest -/
theorem ag_dear {g : Nat → Int32} {n i : Nat} (hn : n ≤ 6) (hu : ag_U g n) (hi : i < n) : ∀ k, (mk_dear g n i k = (g (20 + i), hs_NONE) ∧ hs_dearM g n i k = -1 ∧ hs_dearB g n i k = hs_NONE ∧ ∀ j, j < k → mk_can g n i (nI (j + 1)) = 0) ∨ (mk_dear g n i k = (hs_dearB g n i k, hs_dearM g n i k) ∧ ¬ hs_dearM g n i k < 0) := by
  intro k
  induction k with
  | zero => exact Or.inl ⟨rfl, rfl, rfl, fun j hj => absurd hj (by omega)⟩
  | succ k ih =>
    have hc := ag_can hn hu hi (nI (k + 1))
    have hp := ag_price0 (va_up g (20 + i) (nI (k + 1))) n i
    have hl := ag_lt_none hp
    rw [mk_dear, hs_dearM, hs_dearB]
    by_cases c : mk_can g n i (nI (k + 1)) = 0
    · have hA : hs_prAt g n i k = -1 := by
        unfold hs_prAt
        rw [if_neg (fun z => hc.mpr z c)]
      rw [if_neg (fun z => z.1 c), hA]
      rcases ih with ⟨a1, a2, a3, a4⟩ | ⟨a1, a2⟩
      · rw [a2, if_neg (by decide), if_neg (by decide)]
        refine Or.inl ⟨a1, rfl, a3, fun j hj => ?_⟩
        by_cases e : j = k
        · rw [e]; exact c
        · exact a4 j (by omega)
      · have h3 : ¬ hs_dearM g n i k < -1 := by
          intro z
          rw [Int32.lt_iff_toInt_lt] at z a2
          have e0 : (0 : Int32).toInt = 0 := rfl
          have e1 : (-1 : Int32).toInt = -1 := rfl
          omega
        rw [if_neg h3, if_neg h3]
        exact Or.inr ⟨a1, a2⟩
    · have hA : hs_prAt g n i k = hs_price (va_up g (20 + i) (nI (k + 1))) n i := by
        unfold hs_prAt
        rw [if_pos (hc.mp c)]
      rw [hA]
      rcases ih with ⟨a1, a2, a3, a4⟩ | ⟨a1, a2⟩
      · rw [a1, a2, if_pos hl.2, if_pos hl.2, if_pos ⟨c, hl.1⟩]
        exact Or.inr ⟨rfl, hp⟩
      · rw [a1]
        by_cases c2 : hs_dearM g n i k < hs_price (va_up g (20 + i) (nI (k + 1))) n i
        · rw [if_pos c2, if_pos c2, if_pos ⟨c, c2⟩]
          exact Or.inr ⟨rfl, hp⟩
        · rw [if_neg c2, if_neg c2, if_neg (fun z => c2 z.2)]
          exact Or.inr ⟨rfl, a2⟩
theorem ag_can_own {g : Nat → Int32} {n i : Nat} (hn : n ≤ 6) (hu : ag_U g n) (hi : i < n) : ¬ mk_can g n i (g (20 + i)) = 0 := by
  rw [ag_can hn hu hi]
  rcases ag_who g (g (14 + i)) (g (20 + i)) n hn with ⟨a1, a2⟩ | ⟨j', i', b1, b2, b3, b4, b5, b6, b7, b8⟩
  · rw [a2]; exact Or.inl (by decide)
  · have := hu i' i b2 hi b7 b8
    subst this
    exact Or.inr b4
theorem ag_dearest {g : Nat → Int32} {n nr : Nat} (hn : n ≤ 6) (hu : ag_U g n) (hB : ag_B g n nr) (s : Int32) : cq_dearest g n s = q_dearest g n s := by
  unfold cq_dearest q_dearest
  by_cases c : hs_isSt g s = 0
  · rw [if_pos c, if_pos c]
  · rw [if_neg c, if_neg c]
    obtain ⟨i, hi, e⟩ := hs_st_1 (mk_ok_of hB.1 hB.2.1) c
    rw [e, nI_clamp (by omega)]
    rcases ag_dear hn hu hi 8 with ⟨a1, a2, a3, a4⟩ | ⟨a1, a2⟩
    · exfalso
      obtain ⟨p, h1, h8, ep⟩ := ag_nat (a := 1) (b := 8) (hB.2.2.2 i hi).2.1
      have := a4 (p - 1) (by omega)
      rw [show p - 1 + 1 = p by omega, ← ep] at this
      exact ag_can_own hn hu hi this
    · rw [a1]
