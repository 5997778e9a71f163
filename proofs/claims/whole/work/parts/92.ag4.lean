/-! rows: what is against an item -/
theorem ag_bars {M : Nat → Nat → Int32} {r : Nat} {x k : Int32} (hz : ∃ z : Nat, z ≤ 40 ∧ M 4 r = nI z) (hl : M 3 r = -1 ∨ 0 ≤ M 3 r) : hs_bars M r x k = if ¬ mk_mis (M 3 r) = 0 then 1 else if mk_has (M 4 r) x k = 0 then 2 else 0 := by
  obtain ⟨z, hz, e⟩ := hz
  have e0 : (0 : Int32).toInt = 0 := rfl
  have hm : (¬ mk_mis (M 3 r) = 0) ↔ M 3 r = -1 := ⟨fun q => mk_mis1 q, fun q z => mk_mis0 z q⟩
  unfold hs_bars
  rcases hl with hl | hl
  · have n1 : ¬ mk_mis (M 3 r) = 0 := hm.mpr hl
    have n2 : M 3 r < 0 := by rw [hl]; decide
    rw [if_pos n2, if_pos n1]
  · have n1 : ¬ ¬ mk_mis (M 3 r) = 0 := fun q => by
      have q := hm.mp q
      rw [q] at hl; exact absurd hl (by decide)
    have n2 : ¬ M 3 r < 0 := Int32.not_lt.mpr hl
    rw [if_neg n2, if_neg n1]
    have hh : mk_has (M 4 r) x k = 0 ↔ ¬ (0 ≤ x ∧ 0 ≤ k ∧ k ≤ nI z ∧ x ≤ nI z - k) := by
      unfold mk_has
      rw [hs_if10, e]
    have key : (x < 0 ∨ k < 0 ∨ (nI z).toInt64 < x.toInt64 + k.toInt64) ↔ ¬ (0 ≤ x ∧ 0 ≤ k ∧ k ≤ nI z ∧ x ≤ nI z - k) := by
      by_cases c1 : x < 0
      · exact ⟨fun _ q => absurd q.1 (Int32.not_le.mpr c1), fun _ => Or.inl c1⟩
      by_cases c2 : k < 0
      · exact ⟨fun _ q => absurd q.2.1 (Int32.not_le.mpr c2), fun _ => Or.inr (Or.inl c2)⟩
      obtain ⟨i, hi, rfl⟩ := nI_of c1
      obtain ⟨j, hj, rfl⟩ := nI_of c2
      rw [Int64.lt_iff_toInt_lt, Int64.toInt_add, Int32.toInt_toInt64, Int32.toInt_toInt64, Int32.toInt_toInt64, nI_toInt (by omega), nI_toInt hi, nI_toInt hj, Int.bmod_eq_of_le (by omega) (by omega)]
      constructor
      · rintro (q | q | q) ⟨-, -, q3, q4⟩
        · exact c1 q
        · exact c2 q
        · rw [Int32.le_iff_toInt_le, nI_toInt hj, nI_toInt (by omega)] at q3
          rw [Int32.le_iff_toInt_le, nI_toInt hi, Int32.toInt_sub, nI_toInt hj, nI_toInt (by omega), Int.bmod_eq_of_le (by omega) (by omega)] at q4
          omega
      · intro q
        refine Or.inr (Or.inr ?_)
        by_cases c3 : (z : Int) < i + j
        · exact c3
        · exfalso
          apply q
          refine ⟨nI_pos' hi, nI_pos' hj, ?_, ?_⟩
          · rw [Int32.le_iff_toInt_le, nI_toInt hj, nI_toInt (by omega)]
            omega
          · rw [Int32.le_iff_toInt_le, nI_toInt hi, Int32.toInt_sub, nI_toInt hj, nI_toInt (by omega), Int.bmod_eq_of_le (by omega) (by omega)]
            omega
    by_cases c : x < 0 ∨ k < 0 ∨ (nI z).toInt64 < x.toInt64 + k.toInt64
    · have n3 : mk_has (M 4 r) x k = 0 := hh.mpr (key.mp c)
      rw [if_pos n3, e, if_pos c]
    · have n3 : ¬ mk_has (M 4 r) x k = 0 := fun q => c (key.mpr (hh.mp q))
      rw [if_neg n3, e, if_neg c]
/-- each hangs as told -/
theorem ag_so (g : Nat → Int32) (n : Nat) (t : Nat → Int32) (base : Nat) : ∀ k, mk_so g n t base k = hs_so g n t base k := by
  intro k
  induction k with
  | zero => rfl
  | succ k ih =>
    rw [mk_so, hs_so, ih]
    by_cases c : hs_deep g n k = t (base + k)
    · rw [if_pos c, if_pos c.symm]
    · have c' : ¬ t (base + k) = hs_deep g n k := fun z => c z.symm
      rw [if_neg c, if_neg c']
theorem ag_cuts0 (g : Nat → Int32) (n : Nat) (t : Nat → Int32) (base : Nat) : ∀ k, mk_cuts g n t base k = hs_cuts g n t base k := by
  intro k
  induction k with
  | zero => rfl
  | succ k ih =>
    rw [mk_cuts, hs_cuts, ih, ag_so]
    by_cases c : 1 < g (5 + k)
    · rw [if_pos c]
      by_cases c2 : hs_so (va_up g (5 + k) (g (5 + k) - 1)) n t base n = 0
      · rw [if_neg (fun z => z.2 c2), if_pos c2, hs_or0]
      · rw [if_pos ⟨c, c2⟩, if_neg c2]
    · rw [if_neg c, if_neg (fun z => c z.1)]
theorem ag_cuts {g : Nat → Int32} {n nr : Nat} (ht : mk_t g nr) (t : Nat → Int32) (base : Nat) : mk_cuts g n t base 3 = hs_cuts g n t base nr := by
  have h3 := ht.2.1
  have h : ∀ m, nr + m ≤ 3 → hs_cuts g n t base (nr + m) = hs_cuts g n t base nr := by
    intro m
    induction m with
    | zero => intro _; rfl
    | succ m ih =>
      intro hm
      rw [show nr + (m + 1) = (nr + m) + 1 by omega, hs_cuts, ih (by omega), if_neg]
      rw [ht.2.2.2 (nr + m) (by omega) (by omega)]
      decide
  rw [ag_cuts0, ← h (3 - nr) (by omega), show nr + (3 - nr) = 3 by omega]
theorem ag_21 : ∀ x, x < 21 → ∀ k, k < 21 → nI (21 * x + k) / 21 = nI x ∧ nI (21 * x + k) - nI (21 * x + k) / 21 * 21 = nI k := by decide +kernel
/-- reads: 21 by 21 -/
theorem ag_rdc {g : Nat → Int32} {n : Nat} {t : Nat → Int32} {base a b : Nat} : ∀ k, k ≤ 441 → ∃ c : Nat, c ≤ k ∧ hs_rdN g n t base a b k = nI c ∧ (hs_rdF g n t base a b k = hs_NONE ↔ c = 0) := by
  intro k
  induction k with
  | zero => intro _; exact ⟨0, by omega, rfl, ⟨fun _ => rfl, fun _ => rfl⟩⟩
  | succ k ih =>
    intro hk
    obtain ⟨c, h1, h2, h3⟩ := ih (by omega)
    rw [hs_rdN, hs_rdF, h2]
    by_cases q : hs_so (hs_rdg g a b k) n t base n = 0
    · rw [if_pos q, if_pos q]
      exact ⟨c, by omega, by simp, h3⟩
    · rw [if_neg q, if_neg q]
      refine ⟨c + 1, by omega, nI_1 c, ?_⟩
      by_cases z : c = 0
      · rw [z, if_pos (show nI 0 = 0 from rfl)]
        exact ⟨fun y => absurd y (ag_nN (by omega)), fun y => absurd y (by omega)⟩
      · rw [if_neg (nI_ne0 (by omega) (by omega))]
        exact ⟨fun y => absurd (h3.mp y) z, fun y => absurd y (by omega)⟩
theorem ag_rN {g : Nat → Int32} {n : Nat} {t : Nat → Int32} {base a b x : Nat} (hx : x < 21) : ∀ k, k ≤ 21 → mk_rN g n t base a b x (hs_rdN g n t base a b (21 * x), hs_rdF g n t base a b (21 * x)) k = (hs_rdN g n t base a b (21 * x + k), hs_rdF g n t base a b (21 * x + k)) := by
  intro k
  induction k with
  | zero => intro _; rfl
  | succ k ih =>
    intro hk
    obtain ⟨e1, e2⟩ := ag_21 x hx k (by omega)
    have e3 : hs_rdg g a b (21 * x + k) = va_up (va_up g (26 + a) (nI x)) (26 + b) (nI k) := by
      unfold hs_rdg
      rw [e2, e1]
    obtain ⟨c, h1, h2, h3⟩ := ag_rdc (g := g) (n := n) (t := t) (base := base) (a := a) (b := b) (21 * x + k) (by omega)
    rw [mk_rN, ih (by omega), ag_so, show 21 * x + (k + 1) = (21 * x + k) + 1 by omega, hs_rdN, hs_rdF, e3]
    by_cases q : hs_so (va_up (va_up g (26 + a) (nI x)) (26 + b) (nI k)) n t base n = 0
    · rw [if_pos q, if_pos q, if_pos q]
      simp
    · rw [if_neg q, if_neg q, if_neg q]
      by_cases z : c = 0
      · rw [if_pos (h3.mpr z), h2, z, if_pos (show nI 0 = 0 from rfl)]
        rw [show (21 : Int32) * nI x + nI k = nI (21 * x + k) by rw [← nI_add, ← pk_mul]; rfl]
      · rw [if_neg (fun y => z (h3.mp y)), h2, if_neg (nI_ne0 (by omega) (by omega))]
theorem ag_rr2 {g : Nat → Int32} {n : Nat} {t : Nat → Int32} {base a b : Nat} : ∀ x, x ≤ 21 → mk_rr2 g n t base a b x = (hs_rdN g n t base a b (21 * x), hs_rdF g n t base a b (21 * x)) := by
  intro x
  induction x with
  | zero => intro _; rfl
  | succ x ih =>
    intro hx
    rw [mk_rr2, ih (by omega), ag_rN (by omega) 21 (Nat.le_refl _), show 21 * (x + 1) = 21 * x + 21 by omega]
/-! the numbers that both sides keep -/
def ag_key (k : Nat) : Prop := k = 1 ∨ k = 3 ∨ k = 4 ∨ k = 5 ∨ k = 7 ∨ k = 8 ∨ k = 9 ∨ k = 10 ∨ k = 17 ∨ k = 18
def ag_E (C M : Nat → Nat → Int32) : Prop := ∀ k, ag_key k → C k = M k
theorem ag_E_up {C M : Nat → Nat → Int32} (h : ag_E C M) (k : Nat) (t : Nat → Int32) : ag_E (va_up C k t) (va_up M k t) := by
  intro j hj
  by_cases e : j = k
  · rw [e, va_up_self, va_up_self]
  · rw [va_up_ne _ _ e, va_up_ne _ _ e]; exact h j hj
theorem ag_E_L {C M : Nat → Nat → Int32} (h : ag_E C M) {k : Nat} (hk : ¬ ag_key k) (t : Nat → Int32) : ag_E (va_up C k t) M := by
  intro j hj
  rw [va_up_ne _ _ (fun e => hk (by rw [← e]; exact hj))]
  exact h j hj
theorem ag_E_R {C M : Nat → Nat → Int32} (h : ag_E C M) {k : Nat} (hk : ¬ ag_key k) (t : Nat → Int32) : ag_E C (va_up M k t) := by
  intro j hj
  rw [va_up_ne _ _ (fun e => hk (by rw [← e]; exact hj))]
  exact h j hj
theorem ag_E_w {C M : Nat → Nat → Int32} (h : ag_E C M) {k : Nat} (hk : ag_key k) (j : Nat) (v : Int32) : ag_E (mo_w C k j v) (mo_w M k j v) := by
  rw [mo_w, mo_w, h k hk]
  exact ag_E_up h k _
theorem ag_found {C M : Nat → Nat → Int32} (h : ag_E C M) (k : Int32) : (sp_found C k).1 = (sp_found M k).1 ∧ ag_E (sp_found C k).2 (sp_found M k).2 := ⟨rfl, ag_E_w h (by unfold ag_key; omega) 0 k⟩
theorem ag_well {C M : Nat → Nat → Int32} (h : ag_E C M) (r : Int32) : (sp_well C r).1 = (sp_well M r).1 ∧ ag_E (sp_well C r).2 (sp_well M r).2 := ⟨rfl, ag_E_w h (by unfold ag_key; omega) 0 0⟩
/-- two answers with the numbers behind them that agree -/
def ag_2 (p q : sp_S) : Prop := p.1 = q.1 ∧ ag_E p.2 q.2
theorem ag_2r {C M : Nat → Nat → Int32} (h : ag_E C M) (x : Int32) : ag_2 (x, C) (x, M) := ⟨rfl, h⟩
theorem ag_2f {C M : Nat → Nat → Int32} (h : ag_E C M) (k : Int32) : ag_2 (sp_found C k) (sp_found M k) := ag_found h k
theorem ag_2w {C M : Nat → Nat → Int32} (h : ag_E C M) (k : Int32) : ag_2 (sp_well C k) (sp_well M k) := ag_well h k
def ag_Z (M : Nat → Nat → Int32) : Prop := (∀ r, r < 8 → ∃ z : Nat, z ≤ 40 ∧ M 4 r = nI z) ∧ ∀ r, r < 8 → M 3 r = -1 ∨ 0 ≤ M 3 r
theorem ag_row {C M : Nat → Nat → Int32} (h : ag_E C M) (row lane n : Int32) : ag_2 (sp_row C row lane n) (sp_row M row lane n) := by
  unfold sp_row
  split
  · exact ag_2r h _
  split
  · exact ag_2f h _
  · refine ag_2w ?_ _
    rw [h 5 (by unfold ag_key; omega)]
    exact ag_E_up (ag_E_w (ag_E_w h (by unfold ag_key; omega) _ _) (by unfold ag_key; omega) _ _) _ _
theorem ag_3 {C M : Nat → Nat → Int32} (h : ag_E C M) : C 3 = M 3 := h 3 (by unfold ag_key; omega)
theorem ag_4 {C M : Nat → Nat → Int32} (h : ag_E C M) : C 4 = M 4 := h 4 (by unfold ag_key; omega)
theorem ag_5 {C M : Nat → Nat → Int32} (h : ag_E C M) : C 5 = M 5 := h 5 (by unfold ag_key; omega)
theorem ag_rowN {M : Nat → Nat → Int32} {row : Int32} (hZ : ag_Z M) (h : ¬ hs_row row = 0) : (∃ z : Nat, z ≤ 40 ∧ M 4 row.toNatClampNeg = nI z) ∧ (M 3 row.toNatClampNeg = -1 ∨ 0 ≤ M 3 row.toNatClampNeg) := by
  obtain ⟨r, hr, e⟩ := hs_row_1 h
  rw [e, nI_clamp (by omega)]
  exact ⟨hZ.1 r hr, hZ.2 r hr⟩
theorem ag_mis {M : Nat → Nat → Int32} {r : Nat} (h : M 3 r = -1 ∨ 0 ≤ M 3 r) : M 3 r < 0 ↔ ¬ mk_mis (M 3 r) = 0 := by
  unfold mk_mis
  rw [hs_if10, Classical.not_not]
  rcases h with h | h
  · rw [h]; exact ⟨fun _ => rfl, fun _ => by decide⟩
  · exact ⟨fun z => absurd z (Int32.not_lt.mpr h), fun z => by rw [z] at h; exact absurd h (by decide)⟩
theorem ag_set {C M : Nat → Nat → Int32} (h : ag_E C M) (hZ : ag_Z M) (row x v : Int32) : ag_2 (cs_set C row x v) (sp_set M row x v) := by
  unfold cs_set sp_set
  rw [ag_3 h, ag_4 h]
  by_cases c : hs_row row = 0
  · rw [if_pos c, if_pos c]; exact ag_2r h _
  · rw [if_neg c, if_neg c]
    obtain ⟨h1, h2⟩ := ag_rowN hZ c
    rw [ag_bars h1 h2]
    by_cases c2 : mk_mis (M 3 row.toNatClampNeg) = 0
    · have n2 : ¬ ¬ mk_mis (M 3 row.toNatClampNeg) = 0 := fun z => z c2
      simp only [if_neg n2]
      by_cases c3 : mk_has (M 4 row.toNatClampNeg) x 1 = 0
      · simp only [if_pos c3]; rw [if_pos (show (0 : Int32) < 2 by decide)]; exact ag_2f h _
      · simp only [if_neg c3]; rw [if_neg (show ¬ (0 : Int32) < 0 by decide)]
        exact ag_2w (ag_E_w h (by unfold ag_key; omega) _ _) _
    · simp only [if_pos c2]; rw [if_pos (show (0 : Int32) < 1 by decide)]; exact ag_2f h _
theorem ag_drop {C M : Nat → Nat → Int32} (h : ag_E C M) (hZ : ag_Z M) (row : Int32) : ag_2 (cs_drop C row) (sp_drop M row) := by
  unfold cs_drop sp_drop
  rw [ag_3 h, ag_4 h]
  by_cases c : hs_row row = 0
  · rw [if_pos c, if_pos c]; exact ag_2r h _
  · rw [if_neg c, if_neg c]
    obtain ⟨h1, h2⟩ := ag_rowN hZ c
    by_cases c2 : mk_mis (M 3 row.toNatClampNeg) = 0
    · have n2 : ¬ ¬ mk_mis (M 3 row.toNatClampNeg) = 0 := fun z => z c2
      have n3 : ¬ M 3 row.toNatClampNeg < 0 := fun z => (ag_mis h2).mp z c2
      rw [if_neg n2, if_neg n3]
      exact ag_2w (ag_E_w h (by unfold ag_key; omega) _ _) _
    · rw [if_pos c2, if_pos ((ag_mis h2).mpr c2)]; exact ag_2f h _
theorem ag_cp {t h : Nat → Int32} {src dst k : Nat} : cs_cp t src dst k = hs_lay t (hs_get h t src k) dst k := by
  funext j
  unfold cs_cp hs_lay hs_get
  by_cases c : dst ≤ j ∧ j < dst + k
  · rw [if_pos c, if_pos c, if_pos (by omega)]
  · rw [if_neg c, if_neg c]
theorem ag_copy {C M : Nat → Nat → Int32} (h : ag_E C M) (hZ : ag_Z M) (a x b y n : Int32) : ag_2 (cs_copy C a x b y n) (sp_copy M a x b y n) := by
  unfold cs_copy sp_copy
  rw [ag_3 h, ag_4 h, ag_5 h]
  by_cases c : hs_row a = 0 ∨ hs_row b = 0
  · rw [if_pos c, if_pos c]; exact ag_2r h _
  · rw [if_neg c, if_neg c]
    obtain ⟨h1, h2⟩ := ag_rowN (row := a) hZ (fun z => c (Or.inl z))
    obtain ⟨h3, h4⟩ := ag_rowN (row := b) hZ (fun z => c (Or.inr z))
    rw [ag_bars h1 h2, ag_bars h3 h4]
    by_cases c2 : ¬ mk_mis (M 3 a.toNatClampNeg) = 0 ∨ ¬ mk_mis (M 3 b.toNatClampNeg) = 0
    · have n2 : M 3 a.toNatClampNeg < 0 ∨ M 3 b.toNatClampNeg < 0 := c2.imp (ag_mis h2).mpr (ag_mis h4).mpr
      rw [if_pos c2, if_pos n2]; exact ag_2f h _
    · have n2 : ¬ (M 3 a.toNatClampNeg < 0 ∨ M 3 b.toNatClampNeg < 0) := fun z => c2 (z.imp (ag_mis h2).mp (ag_mis h4).mp)
      rw [if_neg c2, if_neg n2]
      by_cases c3 : ¬ M 3 a.toNatClampNeg = M 3 b.toNatClampNeg
      · rw [if_pos c3, if_pos c3]; exact ag_2f h _
      · have n3 : ¬ ¬ mk_mis (M 3 a.toNatClampNeg) = 0 := fun z => c2 (Or.inl z)
        have n4 : ¬ ¬ mk_mis (M 3 b.toNatClampNeg) = 0 := fun z => c2 (Or.inr z)
        rw [if_neg c3, if_neg c3, if_neg n3, if_neg n4]
        by_cases c4 : mk_has (M 4 a.toNatClampNeg) x n = 0
        · have n5 : mk_has (M 4 a.toNatClampNeg) x n = 0 ∨ mk_has (M 4 b.toNatClampNeg) y n = 0 := Or.inl c4
          rw [if_pos n5, if_pos c4, if_pos (Or.inl (show (0 : Int32) < 2 by decide))]; exact ag_2f h _
        · rw [if_neg c4]
          by_cases c5 : mk_has (M 4 b.toNatClampNeg) y n = 0
          · have n5 : mk_has (M 4 a.toNatClampNeg) x n = 0 ∨ mk_has (M 4 b.toNatClampNeg) y n = 0 := Or.inr c5
            rw [if_pos n5, if_pos c5, if_pos (Or.inr (show (0 : Int32) < 2 by decide))]; exact ag_2f h _
          · have n5 : ¬ (mk_has (M 4 a.toNatClampNeg) x n = 0 ∨ mk_has (M 4 b.toNatClampNeg) y n = 0) := fun z => z.elim c4 c5
            rw [if_neg n5, if_neg c5, if_neg (show ¬ ((0 : Int32) < 0 ∨ (0 : Int32) < 0) by decide)]
            refine ag_2w ?_ _
            rw [ag_cp (h := M 6)]
            exact ag_E_up (ag_E_R h (by unfold ag_key; omega) _) _ _
theorem ag_feed {C M : Nat → Nat → Int32} (h : ag_E C M) {t : Nat} (ht : M 9 0 = nI t) (ht1 : t ≤ 100) (b : Int32) : ag_2 (cs_feed C b) (sp_feed M b) := by
  unfold cs_feed sp_feed
  rw [h 9 (by unfold ag_key; omega)]
  by_cases c : hs_in b 0 255 = 0
  · rw [if_pos c, if_pos c]; exact ag_2r h _
  · rw [if_neg c, if_neg c]
    by_cases c2 : t = 100
    · rw [if_neg (by rw [ht, c2]; decide), if_pos (by rw [ht, c2]; rfl)]
      exact ag_2r h _
    · rw [if_pos (by rw [ht]; exact nI_lt (b := 100) (by omega) (by omega)), if_neg (by rw [ht]; exact fun z => c2 ((nI_eq (b := 100) (by omega) (by omega)).mp z))]
      exact ⟨rfl, ag_E_w (ag_E_w h (by unfold ag_key; omega) _ _) (by unfold ag_key; omega) _ _⟩
theorem ag_many {C M : Nat → Nat → Int32} (h : ag_E C M) (hZ : ag_Z M) : ∀ k, k ≤ 8 → cs_many C k = hs_many M k := by
  intro k
  induction k with
  | zero => intro _; rfl
  | succ k ih =>
    intro hk
    have h2 := ag_mis (M := M) (r := k) (hZ.2 k (by omega))
    rw [cs_many, hs_many, ih (by omega), ag_3 h]
    by_cases c : mk_mis (M 3 k) = 0
    · rw [if_pos c, if_neg (fun z => h2.mp z c)]
    · rw [if_neg c, if_pos (h2.mpr c)]
      simp
theorem ag_count {C M : Nat → Nat → Int32} (h : ag_E C M) (hZ : ag_Z M) (what : Int32) : cs_count C (M 0) what = q_count M what := by
  unfold cs_count q_count
  rw [ag_many h hZ 8 (Nat.le_refl _), h 1 (by unfold ag_key; omega), h 9 (by unfold ag_key; omega)]
theorem ag_trace {C M : Nat → Nat → Int32} (h : ag_E C M) (hT : hs_tr M) (x : Int32) : cs_trace C x = q_trace M x := by
  obtain ⟨t, h1, h2⟩ := hT
  unfold cs_trace q_trace
  rw [h 17 (by unfold ag_key; omega), h 18 (by unfold ag_key; omega), h2]
  by_cases c : hs_in x 0 (nI t - 1) = 0
  · rw [if_pos c]
    rw [if_pos]
    apply Classical.byContradiction
    intro z
    have z1 : ¬ x < 0 := fun q => z (Or.inl q)
    have z2 : ¬ nI t ≤ x := fun q => z (Or.inr (Or.inl q))
    obtain ⟨j, hj, rfl⟩ := nI_of z1
    have hjt : j < t := by
      rcases Nat.lt_or_ge j t with q | q
      · exact q
      · exact absurd (nI_le (a := t) (b := j) q hj) z2
    apply hs_in_0 c
    refine ⟨nI_pos' hj, ?_⟩
    obtain ⟨m, rfl⟩ : ∃ m, t = m + 1 := ⟨t - 1, by omega⟩
    rw [nI_pred]
    exact nI_le (by omega) (by omega)
  · obtain ⟨j, hj, rfl⟩ := hs_in_jm (by omega) c
    rw [if_neg c, if_neg]
    rintro (q | q | q)
    · exact nI_pos (n := j) (by omega) q
    · exact nI_ge hj (by omega) q
    · exact nI_ge (a := j) (b := 16) (by omega) (by omega) q
theorem ag_whoCut {C M : Nat → Nat → Int32} (h : ag_E C M) (hZ : ag_Z M) {n nr : Nat} (ht : mk_t (M 0) nr) (h4 : M 0 4 = 0 ↔ M 0 2 = 0) (row x : Int32) : ag_2 (cs_whoCut C (M 0) n row x) (sp_whoCut M n nr row x) := by
  unfold cs_whoCut sp_whoCut
  rw [ag_3 h, ag_4 h, ag_5 h]
  by_cases c0 : M 0 2 = 0
  · rw [if_pos c0, if_pos (h4.mpr c0)]; exact ag_2r h _
  rw [if_neg c0, if_neg (fun z => c0 (h4.mp z))]
  by_cases c : hs_row row = 0
  · rw [if_pos c, if_pos c]; exact ag_2r h _
  rw [if_neg c, if_neg c]
  obtain ⟨h1, h2⟩ := ag_rowN hZ c
  rw [ag_bars h1 h2]
  by_cases c2 : mk_mis (M 3 row.toNatClampNeg) = 0
  · have n2 : ¬ ¬ mk_mis (M 3 row.toNatClampNeg) = 0 := fun z => z c2
    simp only [if_neg n2]
    by_cases c3 : mk_has (M 4 row.toNatClampNeg) x (M 0 3) = 0
    · simp only [if_pos c3]; rw [if_pos (show (0 : Int32) < 2 by decide)]; exact ag_2f h _
    · simp only [if_neg c3]; rw [if_neg (show ¬ (0 : Int32) < 0 by decide), ag_cuts ht]
      exact ag_2w h _
  · simp only [if_pos c2]; rw [if_pos (show (0 : Int32) < 1 by decide)]; exact ag_2f h _
theorem ag_reads {C M : Nat → Nat → Int32} (h : ag_E C M) (hZ : ag_Z M) {n : Nat} (a b row x what : Int32) : ag_2 (cs_reads C (M 0) n a b row x what) (sp_reads M n a b row x what) := by
  unfold cs_reads sp_reads
  rw [ag_3 h, ag_4 h, ag_5 h]
  by_cases c : hs_isSt (M 0) a = 0 ∨ hs_isSt (M 0) b = 0 ∨ a = b ∨ hs_row row = 0 ∨ hs_in what 0 1 = 0
  · rw [if_pos c, if_pos c]; exact ag_2r h _
  rw [if_neg c, if_neg c]
  obtain ⟨h1, h2⟩ := ag_rowN (row := row) hZ (fun z => c (Or.inr (Or.inr (Or.inr (Or.inl z)))))
  rw [ag_bars h1 h2]
  by_cases c2 : mk_mis (M 3 row.toNatClampNeg) = 0
  · have n2 : ¬ ¬ mk_mis (M 3 row.toNatClampNeg) = 0 := fun z => z c2
    simp only [if_neg n2]
    by_cases c3 : mk_has (M 4 row.toNatClampNeg) x (M 0 3) = 0
    · simp only [if_pos c3]; rw [if_pos (show (0 : Int32) < 2 by decide)]; exact ag_2f h _
    · simp only [if_neg c3]; rw [if_neg (show ¬ (0 : Int32) < 0 by decide), ag_rr2 21 (Nat.le_refl _)]
      exact ag_2w h _
  · simp only [if_pos c2]; rw [if_pos (show (0 : Int32) < 1 by decide)]; exact ag_2f h _
theorem ag_as {C M : Nat → Nat → Int32} (h : ag_E C M) (one kind : Int32) : ag_2 (cs_as C (M 0) one kind) (sp_as M one kind) := by
  unfold cs_as sp_as
  split
  · exact ag_2r h _
  split
  · exact ag_2f h _
  · exact ag_2w h _
/-- asked -/
theorem ag_leave {C M : Nat → Nat → Int32} (h : ag_E C M) (b : Int32) : ag_E (sp_leave C b) (sp_leave M b) := by
  unfold sp_leave
  rw [h 18 (by unfold ag_key; omega)]
  split
  · exact ag_E_w (ag_E_w h (by unfold ag_key; omega) _ _) (by unfold ag_key; omega) _ _
  · exact h
theorem ag_ask {C M : Nat → Nat → Int32} (h : ag_E C M) {n nr : Nat} (hs : mk_sr (M 0) n) (ht : mk_t (M 0) nr) (one what : Int32) : ag_2 (cs_ask C (M 0) one what) (sp_ask M one what) := by
  unfold cs_ask sp_ask
  by_cases c : hs_isSt (M 0) one = 0 ∨ hs_in what 0 1 = 0
  · rw [if_pos c, if_pos c]; exact ag_2r h _
  rw [if_neg c, if_neg c]
  obtain ⟨i, hi, e⟩ := hs_st_1 (mk_ok_of hs ht) (fun z => c (Or.inl z))
  have h6 := hs.2.1
  rw [e, nI_clamp (by omega)]
  have h0 : ag_E (mo_w C 18 0 0) (mo_w M 18 0 0) := ag_E_w h (by unfold ag_key; omega) _ _
  have e0 : mo_w M 18 0 0 0 = M 0 := va_up_ne _ _ (by decide)
  generalize mo_w C 18 0 0 = C1 at h0 ⊢
  generalize mo_w M 18 0 0 = M1 at h0 e0 ⊢
  have hk := hs.2.2.1 i hi
  rw [← e0] at hk ⊢
  have hl := fun b => sp_leave_0 M1 b
  by_cases c2 : what = 0
  · rw [if_pos c2, if_pos c2]
    rcases hk with hk | hk | hk | hk | hk
    · refine ⟨?_, ?_⟩
      · simp [ms_sr, ms_mr, sp_size, sp_tsize, sp_markT, sp_tmark, hk]
      · simp only [ms_sc, ms_mc, sp_size, sp_tsize, sp_markT, sp_tmark, hk, sp_leave_0]
        simp
        exact ag_leave (ag_leave (ag_leave (ag_leave h0 _) _) _) _
    · refine ⟨?_, ?_⟩
      · simp [ms_sr, ms_mr, sp_size, sp_tsize, sp_markT, sp_tmark, hk]
      · simp only [ms_sc, ms_mc, sp_size, sp_tsize, sp_markT, sp_tmark, hk, sp_leave_0]
        simp
        exact ag_leave (ag_leave (ag_leave (ag_leave (ag_leave (ag_leave h0 _) _) _) _) _) _
    · refine ⟨?_, ?_⟩
      · simp [ms_sr, ms_mr, sp_size, sp_tsize, sp_markT, sp_tmark, hk]
      · simp only [ms_sc, ms_mc, sp_size, sp_tsize, sp_markT, sp_tmark, hk, sp_leave_0]
        simp
        exact ag_leave (ag_leave (ag_leave (ag_leave (ag_leave h0 _) _) _) _) _
    · refine ⟨?_, ?_⟩
      · simp [ms_sr, ms_ns, sp_size, sp_nsize, hk]
      · simp only [ms_sc, ms_nc, sp_size, sp_nsize, hk]
        simp
        exact ag_leave (ag_leave h0 _) _
    · refine ⟨?_, ?_⟩
      · simp [ms_sr, ms_ns, sp_size, sp_nsize, hk]
      · simp only [ms_sc, ms_nc, sp_size, sp_nsize, hk]
        simp
        exact ag_leave (ag_leave (ag_leave h0 _) _) _
  · rw [if_neg c2, if_neg c2]
    rcases hk with hk | hk | hk | hk | hk
    · refine ⟨?_, ?_⟩
      · simp [ms_kr, ms_mr, sp_mark, sp_markT, sp_tmark, hk]
      · simp [ms_kc, ms_mc, sp_mark, sp_markT, sp_tmark, hk]
        exact ag_leave (ag_leave h0 _) _
    · refine ⟨?_, ?_⟩
      · simp [ms_kr, ms_mr, sp_mark, sp_markT, sp_tmark, hk]
      · simp [ms_kc, ms_mc, sp_mark, sp_markT, sp_tmark, hk]
        exact ag_leave (ag_leave (ag_leave h0 _) _) _
    · refine ⟨?_, ?_⟩
      · simp [ms_kr, ms_mr, sp_mark, sp_markT, sp_tmark, hk]
      · simp [ms_kc, ms_mc, sp_mark, sp_markT, sp_tmark, hk]
        exact ag_leave (ag_leave (ag_leave h0 _) _) _
    · refine ⟨?_, ?_⟩
      · simp [ms_kr, ms_ns, sp_mark, sp_size, sp_nsize, hk]
      · simp [ms_kc, ms_nc, sp_mark, sp_size, sp_nsize, hk, sp_leave_0]
        exact ag_leave (ag_leave (ag_leave (ag_leave h0 _) _) _) _
    · refine ⟨?_, ?_⟩
      · simp [ms_kr, ms_ns, sp_mark, sp_size, sp_nsize, hk]
      · simp [ms_kc, ms_nc, sp_mark, sp_size, sp_nsize, hk, sp_leave_0]
        exact ag_leave (ag_leave (ag_leave (ag_leave (ag_leave h0 _) _) _) _) _
theorem ag_stall {g : Nat → Int32} {n nr : Nat} (hB : ag_B g n nr) (s what : Int32) : cq_stall g n s what = q_stall g n s what := by
  have hn := hB.1.2.1
  unfold cq_stall q_stall
  by_cases c : hs_isSt g s = 0
  · rw [if_pos c, if_pos (Or.inl c)]
  rw [if_neg c]
  obtain ⟨i, hi, e⟩ := hs_st_1 (mk_ok_of hB.1 hB.2.1) c
  have ho := hB.1.2.2.2 i hi
  subst e
  rw [nI_clamp (by omega)]
  by_cases c2 : hs_in what 0 8 = 0
  · rw [if_pos (Or.inr c2)]
    have hne : ∀ k : Nat, k ≤ 8 → ¬ what = nI k := by
      intro k hk z
      subst z
      apply hs_in_0 c2
      exact ⟨nI_pos' (by omega), nI_le (b := 8) hk (by omega)⟩
    have e0 : ¬ what = 0 := hne 0 (by omega)
    have e1 : ¬ what = 1 := hne 1 (by omega)
    have e2 : ¬ what = 2 := hne 2 (by omega)
    have e3 : ¬ what = 3 := hne 3 (by omega)
    have e4 : ¬ what = 4 := hne 4 (by omega)
    have e5 : ¬ what = 5 := hne 5 (by omega)
    have e6 : ¬ what = 6 := hne 6 (by omega)
    have e7 : ¬ what = 7 := hne 7 (by omega)
    have e8 : ¬ what = 8 := hne 8 (by omega)
    rw [if_neg e0, if_neg e1, if_neg e2, if_neg e3, if_neg e4, if_neg e5, if_neg e6, if_neg e7, if_neg e8]
  · have n2 : ¬ (hs_isSt g (nI i) = 0 ∨ hs_in what 0 8 = 0) := fun z => z.elim c c2
    rw [if_neg n2]
    obtain ⟨k, hk, ek⟩ := hs_in_j (n := 8) rfl (by omega) c2
    rcases (show k = 0 ∨ k = 1 ∨ k = 2 ∨ k = 3 ∨ k = 4 ∨ k = 5 ∨ k = 6 ∨ k = 7 ∨ k = 8 by omega) with rfl | rfl | rfl | rfl | rfl | rfl | rfl | rfl | rfl
    · have ek : what = 0 := ek
      subst ek
      simp
    · have ek : what = 1 := ek
      subst ek
      simp
    · have ek : what = 2 := ek
      subst ek
      simp
    · have ek : what = 3 := ek
      subst ek
      simp
    · have ek : what = 4 := ek
      subst ek
      simp
    · have ek : what = 5 := ek
      subst ek
      rcases ho with ho | ho
      · simp [ho]
      · simp [ho]
    · have ek : what = 6 := ek
      subst ek
      simp
    · have ek : what = 7 := ek
      subst ek
      simp
    · have ek : what = 8 := ek
      subst ek
      simp
theorem ag_rope {g : Nat → Int32} {n : Nat} (hn : n ≤ 6) (hu : ag_U g n) (rope place what : Int32) : cq_rope g n rope place what = q_rope g n rope place what := by
  unfold cq_rope q_rope
  rw [ag_std hn hu]
  by_cases c : hs_isRo g rope = 0 ∨ hs_in place 1 8 = 0
  · rw [if_pos c, if_pos (by rcases c with c | c; exact Or.inl c; exact Or.inr (Or.inl c))]
  rw [if_neg c]
  by_cases c2 : hs_in what 0 3 = 0
  · rw [if_pos (Or.inr (Or.inr c2))]
    have hne : ∀ k : Nat, k ≤ 3 → ¬ what = nI k := by
      intro k hk z
      subst z
      apply hs_in_0 c2
      exact ⟨nI_pos' (by omega), nI_le (b := 3) hk (by omega)⟩
    have e0 : ¬ what = 0 := hne 0 (by omega)
    have e1 : ¬ what = 1 := hne 1 (by omega)
    have e2 : ¬ what = 2 := hne 2 (by omega)
    have e3 : ¬ what = 3 := hne 3 (by omega)
    rw [if_neg e0, if_neg e1, if_neg e2, if_neg e3]
  · have n2 : ¬ (hs_isRo g rope = 0 ∨ hs_in place 1 8 = 0 ∨ hs_in what 0 3 = 0) := by
      intro z
      rcases z with z | z | z
      · exact c (Or.inl z)
      · exact c (Or.inr z)
      · exact c2 z
    rw [if_neg n2]
    obtain ⟨k, hk, ek⟩ := hs_in_j (n := 3) rfl (by omega) c2
    rcases (show k = 0 ∨ k = 1 ∨ k = 2 ∨ k = 3 by omega) with rfl | rfl | rfl | rfl
    · have ek : what = 0 := ek
      subst ek
      simp
    · have ek : what = 1 := ek
      subst ek
      simp
    · have ek : what = 2 := ek
      subst ek
      simp
    · have ek : what = 3 := ek
      subst ek
      simp
theorem ag_drops {g : Nat → Int32} {n : Nat} (h4 : g 4 = 0 ↔ g 2 = 0) : cq_drops g n = q_drops g n := by
  unfold cq_drops q_drops
  by_cases c : g 2 = 0
  · rw [if_pos c, if_pos (h4.mpr c)]
  · rw [if_neg c, if_neg (fun z => c (h4.mp z))]
