/-! IN WHAT ORDER WARES ARE TAKEN OFF, both ways: a row of counts laid from its end down -/
def ag_fl (V : (Nat → Int32) → Nat → Int32) : (Nat → Int32) → Nat → (Nat → Int32)
  | o, 0 => o
  | o, q + 1 => ag_fl V (va_up o q (V o q)) q
theorem ag_fl_ok {V : (Nat → Int32) → Nat → Int32} (hV : ∀ o o' q, q < 64 → (∀ j, q < j → j < 64 → o j = o' j) → V o q = V o' q) : ∀ Q, Q ≤ 64 → ∀ o, (∀ j, Q ≤ j → ag_fl V o Q j = o j) ∧ ∀ j, j < Q → ag_fl V o Q j = V (ag_fl V o Q) j := by
  intro Q
  induction Q with
  | zero => intro _ o; exact ⟨fun _ _ => rfl, fun j hj => absurd hj (by omega)⟩
  | succ Q ih =>
    intro hQ o
    obtain ⟨h1, h2⟩ := ih (by omega) (va_up o Q (V o Q))
    have e : ag_fl V o (Q + 1) = ag_fl V (va_up o Q (V o Q)) Q := rfl
    rw [e]
    refine ⟨fun j hj => ?_, fun j hj => ?_⟩
    · rw [h1 j (by omega), va_up_ne _ _ (by omega)]
    · by_cases c : j = Q
      · subst c
        rw [h1 j (Nat.le_refl _), va_up_self]
        refine hV _ _ j (by omega) (fun i hi hi6 => ?_)
        rw [h1 i (by omega), va_up_ne _ _ (by omega)]
      · exact h2 j (by omega)
theorem ag_fl_c (g : Nat → Int32) (n : Nat) (to : Int32) : ∀ Q o, mk_cod g n to o Q = ag_fl (fun o q => mk_ov g n to o (nI q)) o Q := by
  intro Q
  induction Q with
  | zero => intro o; rfl
  | succ Q ih => intro o; rw [mk_cod, ih]; rfl
theorem ag_fl_m (g : Nat → Int32) (n hd : Nat) : ∀ Q o, lw_fill g n hd o Q = ag_fl (lw_val g n hd) o Q := by
  intro Q
  induction Q with
  | zero => intro o; rfl
  | succ Q ih => intro o; rw [lw_fill, ih]; rfl
theorem ag_b1 : ∀ a, a < 64 → ∀ b, b < 64 → ∀ i, i < 6 → (((nI a &&& (nI b ^^^ (-1 : Int32))) &&& ((1 : Int32) <<< (nI i &&& 31))) = 0 ↔ ¬ (a.testBit i = true ∧ b.testBit i = false)) := by decide +kernel
theorem ag_b2 : ∀ a, a < 64 → ∀ b, b < 64 → ((nI a &&& (nI b ^^^ (-1 : Int32))) = 0 ↔ ∀ i, i < 6 → a.testBit i = true → b.testBit i = true) := by decide +kernel
theorem ag_b3 : ∀ a, a < 64 → ∀ b, b < 64 → (nI (b ||| a) &&& nI b) = nI b := by decide +kernel
theorem ag_from {o : Nat → Int32} {tN q i : Nat} (ht : tN < 64) (hq : q < 64) (hi : i < 6) : mk_from o (nI tN) (nI q) (nI i) = if tN.testBit i = true ∧ q.testBit i = false then o (q ||| 2 ^ i) else 0 := by
  obtain ⟨e1, e2, -⟩ := lw_or q hq i hi
  have hb := ag_b1 tN ht q hq i hi
  unfold mk_from
  rw [e1, nI_clamp (by omega)]
  by_cases c : tN.testBit i = true ∧ q.testBit i = false
  · rw [if_pos c, if_neg]
    rintro (z | z | z)
    · exact hb.mp z c
    · exact nI_pos (n := q ||| 2 ^ i) (by omega) z
    · exact nI_ge (a := q ||| 2 ^ i) (b := 64) (by omega) (by omega) z
  · rw [if_neg c, if_pos (Or.inl (hb.mpr c))]
theorem ag_sumF_c {o o' : Nat → Int32} {tN q : Nat} (ht : tN < 64) (hq : q < 64) (h : ∀ j, q < j → j < 64 → o j = o' j) : ∀ k, k ≤ 6 → mk_sumF o (nI tN) (nI q) k = mk_sumF o' (nI tN) (nI q) k := by
  intro k
  induction k with
  | zero => intro _; rfl
  | succ k ih =>
    intro hk
    rw [mk_sumF, mk_sumF, ih (by omega), ag_from ht hq (by omega), ag_from ht hq (by omega)]
    by_cases c : tN.testBit k = true ∧ q.testBit k = false
    · obtain ⟨-, e2, -, e4⟩ := lw_or q hq k (by omega)
      rw [if_pos c, if_pos c, h _ (e4 c.2) e2]
    · rw [if_neg c, if_neg c]
theorem ag_dep_c (g : Nat → Int32) (n tN : Nat) (ht : tN < 64) : ∀ o o' q, q < 64 → (∀ j, q < j → j < 64 → o j = o' j) → mk_ov g n (nI tN) o (nI q) = mk_ov g n (nI tN) o' (nI q) := by
  intro o o' q hq h
  unfold mk_ov mk_beh
  rw [ag_sumF_c ht hq h 6 (Nat.le_refl _)]
theorem ag_dep_m (g : Nat → Int32) (n hd : Nat) (hn : n ≤ 6) : ∀ o o' q, q < 64 → (∀ j, q < j → j < 64 → o j = o' j) → lw_val g n hd o q = lw_val g n hd o' q := by
  intro o o' q hq h
  have hs : ∀ k, k ≤ 6 → lw_sum o q k = lw_sum o' q k := by
    intro k
    induction k with
    | zero => intro _; rfl
    | succ k ih =>
      intro hk
      rw [lw_sum, lw_sum, ih (by omega)]
      cases hb : q.testBit k with
      | true => rw [if_pos rfl, if_pos rfl]
      | false =>
        obtain ⟨-, e2, -, e4⟩ := lw_or q hq k (by omega)
        rw [if_neg (by decide), if_neg (by decide), h _ (e4 hb) e2]
  unfold lw_val
  rw [hs n hn]
/-- T: so many taken off by then, out of those that may be -/
def ag_sub_ (T tN : Nat) : Prop := ∀ i, i < 6 → T.testBit i = true → tN.testBit i = true
theorem ag_bits6 {a b : Nat} (ha : a < 64) (hb : b < 64) (h : ∀ i, i < 6 → a.testBit i = b.testBit i) : a = b := by
  apply Nat.eq_of_testBit_eq
  intro i
  by_cases c : i < 6
  · exact h i c
  · rw [Nat.testBit_lt_two_pow (Nat.lt_of_lt_of_le ha (Nat.le_trans (by decide) (Nat.pow_le_pow_right (by decide) (show 6 ≤ i by omega)))), Nat.testBit_lt_two_pow (Nat.lt_of_lt_of_le hb (Nat.le_trans (by decide) (Nat.pow_le_pow_right (by decide) (show 6 ≤ i by omega))))]
theorem ag_ones : ∀ n, n < 7 → ∀ i, i < 6 → (2 ^ n - 1).testBit i = decide (i < n) := by decide +kernel
section AGU
variable {g : Nat → Int32} {n nr tN hd : Nat}
/-- both sides' sets: what may be taken off, what was off -/
def ag_TH (g : Nat → Int32) (n tN hd : Nat) : Prop := n ≤ 6 ∧ tN < 2 ^ n ∧ hd < 2 ^ n ∧ (∀ i, i < 6 → (tN.testBit i = true ↔ (i < n ∧ g (44 + i) = 0))) ∧ (∀ i, i < 6 → (hd.testBit i = true ↔ (i < n ∧ g (44 + i) = 1))) ∧ ∀ i, i < n → g (44 + i) = 0 ∨ g (44 + i) = 1
theorem ag_TH_ok (hs : mk_sr g n) : ag_TH g n (mk_toN g n) (lw_hN g n) :=
  ⟨hs.2.1, (mk_to_n g n hs.2.1).2, (lw_had_n hs.2.2.2 n (Nat.le_refl n) hs.2.1).2, fun i hi => mk_toN_bit g n hs.2.1 i hi, fun i hi => lw_hN_bit hs.2.2.2 n (Nat.le_refl n) hs.2.1 i hi, hs.2.2.2⟩
theorem ag_p64 (hn : n ≤ 6) : 2 ^ n ≤ 64 := Nat.le_trans (Nat.pow_le_pow_right (by decide) hn) (by decide)
theorem ag_S (h : ag_TH g n tN hd) {T : Nat} (hT : T < 64) (hs : ag_sub_ T tN) : (hd ||| T) < 2 ^ n ∧ ∀ i, i < 6 → ((hd ||| T).testBit i = true ↔ (hd.testBit i = true ∨ T.testBit i = true)) := by
  obtain ⟨hn, h1, h2, h3, h4, h5⟩ := h
  have hp := ag_p64 hn
  have hT2 : T < 2 ^ n := by
    refine Nat.lt_pow_two_of_testBit T (fun i hi => ?_)
    by_cases c : i < 6
    · cases hb : T.testBit i with
      | false => rfl
      | true =>
        have := ((h3 i c).mp (hs i c hb)).1
        omega
    · exact Nat.testBit_lt_two_pow (Nat.lt_of_lt_of_le hT (Nat.le_trans (by decide) (Nat.pow_le_pow_right (by decide) (show 6 ≤ i by omega))))
  refine ⟨Nat.or_lt_two_pow h2 hT2, fun i hi => ?_⟩
  rw [Nat.testBit_or, Bool.or_eq_true]
/-- the markets looked at are one -/
theorem ag_mkt (h : ag_TH g n tN hd) {T : Nat} (hT : T < 64) (hs : ag_sub_ T tN) : mk_tk g (nI tN) (nI T) n = lw_off g (nI (hd ||| T)) n := by
  obtain ⟨hS, hSb⟩ := ag_S h hT hs
  obtain ⟨hn, h1, h2, h3, h4, h5⟩ := h
  have hp := ag_p64 hn
  funext j
  rw [mk_tk_at]
  unfold lw_off
  by_cases c : 44 ≤ j ∧ j < 44 + n
  · have hi : j - 44 < 6 := by omega
    have ej : 44 + (j - 44) = j := by omega
    have k3 := h3 (j - 44) hi
    have k4 := h4 (j - 44) hi
    have k5 := h5 (j - 44) (by omega)
    rw [ej] at k3 k4 k5
    rw [if_pos c, lw_bit (hd ||| T) (by omega) (j - 44) hi]
    by_cases ct : tN.testBit (j - 44) = true
    · have g0 := (k3.mp ct).2
      have hdn : ¬ hd.testBit (j - 44) = true := fun z => by have := (k4.mp z).2; rw [g0] at this; exact absurd this (by decide)
      rw [if_pos ⟨c.1, c.2, (mk_bitN tN (by omega) (j - 44) hi).mpr ct⟩]
      by_cases cT : T.testBit (j - 44) = true
      · rw [if_pos ((mk_bitN T hT (j - 44) hi).mpr cT), if_pos ((hSb _ hi).mpr (Or.inr cT))]
      · rw [if_neg (fun z => cT ((mk_bitN T hT (j - 44) hi).mp z)), if_neg (fun z => ((hSb _ hi).mp z).elim hdn cT)]
    · rw [if_neg (fun z => ct ((mk_bitN tN (by omega) (j - 44) hi).mp z.2.2))]
      have g1 : g j = 1 := k5.resolve_left (fun z => ct (k3.mpr ⟨by omega, z⟩))
      rw [if_pos ((hSb _ hi).mpr (Or.inl (k4.mpr ⟨by omega, g1⟩))), g1]
  · rw [if_neg c, if_neg (fun z => c ⟨z.1, z.2.1⟩)]
theorem ag_full (h : ag_TH g n tN hd) {T : Nat} (hT : T < 64) (hs : ag_sub_ T tN) : nI T = nI tN ↔ (hd ||| T) = 2 ^ n - 1 := by
  obtain ⟨hS, hSb⟩ := ag_S h hT hs
  obtain ⟨hn, h1, h2, h3, h4, h5⟩ := h
  have hp := ag_p64 hn
  rw [nI_eq (by omega) (by omega)]
  constructor
  · intro e
    subst e
    refine ag_bits6 (by omega) (by omega) (fun i hi => ?_)
    rw [ag_ones n (by omega) i hi]
    by_cases c : i < n
    · rw [decide_eq_true c]
      refine (hSb i hi).mpr ?_
      rcases h5 i c with z | z
      · exact Or.inr ((h3 i hi).mpr ⟨c, z⟩)
      · exact Or.inl ((h4 i hi).mpr ⟨c, z⟩)
    · rw [decide_eq_false c]
      cases hb : (hd ||| T).testBit i with
      | false => rfl
      | true =>
        rcases (hSb i hi).mp hb with z | z
        · exact absurd ((h4 i hi).mp z).1 c
        · exact absurd ((h3 i hi).mp z).1 c
  · intro e
    refine ag_bits6 hT (by omega) (fun i hi => ?_)
    cases hb : tN.testBit i with
    | false =>
      cases ht : T.testBit i with
      | false => rfl
      | true => have := hs i hi ht; rw [hb] at this; exact absurd this (by decide)
    | true =>
      have k := (h3 i hi).mp hb
      have h1' : (hd ||| T).testBit i = true := by rw [e, ag_ones n (by omega) i hi]; exact decide_eq_true k.1
      rcases (hSb i hi).mp h1' with z | z
      · have := ((h4 i hi).mp z).2
        rw [k.2] at this
        exact absurd this (by decide)
      · exact z
/-- i may come next on either side -/
theorem ag_next (h : ag_TH g n tN hd) {T i : Nat} (hT : T < 64) (hs : ag_sub_ T tN) (hi : i < n) : (tN.testBit i = true ∧ T.testBit i = false) ↔ (hd ||| T).testBit i = false := by
  obtain ⟨hS, hSb⟩ := ag_S h hT hs
  obtain ⟨hn, h1, h2, h3, h4, h5⟩ := h
  have hi6 : i < 6 := by omega
  constructor
  · rintro ⟨a, b⟩
    cases hb : (hd ||| T).testBit i with
    | false => rfl
    | true =>
      rcases (hSb i hi6).mp hb with z | z
      · have e1 := ((h3 i hi6).mp a).2
        have e2 := ((h4 i hi6).mp z).2
        rw [e1] at e2
        exact absurd e2 (by decide)
      · rw [b] at z; exact absurd z (by decide)
  · intro hb
    have n1 : ¬ hd.testBit i = true := fun z => by have := (hSb i hi6).mpr (Or.inl z); rw [hb] at this; exact absurd this (by decide)
    have n2 : ¬ T.testBit i = true := fun z => by have := (hSb i hi6).mpr (Or.inr z); rw [hb] at this; exact absurd this (by decide)
    refine ⟨?_, by cases ht : T.testBit i with
      | false => rfl
      | true => exact absurd ht n2⟩
    rcases h5 i hi with z | z
    · exact (h3 i hi6).mpr ⟨hi, z⟩
    · exact absurd ((h4 i hi6).mpr ⟨hi, z⟩) n1
theorem ag_sub_s (h : ag_TH g n tN hd) {T i : Nat} (hT : T < 64) (hs : ag_sub_ T tN) (hi : i < 6) (ht : tN.testBit i = true) : ag_sub_ (T ||| 2 ^ i) tN := by
  intro j hj hb
  rw [Nat.testBit_or, Bool.or_eq_true] at hb
  rcases hb with z | z
  · exact hs j hj z
  · rw [Nat.testBit_two_pow] at z
    have : i = j := by simpa using z
    subst this
    exact ht
theorem ag_orders (h : ag_TH g n tN hd) {Fc Fm : Nat → Int32} (hc : ∀ j, j < 64 → Fc j = mk_ov g n (nI tN) Fc (nI j)) (hm : ∀ j, j < 2 ^ n → Fm j = lw_val g n hd Fm j) : ∀ m T, 64 ≤ T + m → T < 64 → ag_sub_ T tN → Fc T = Fm (hd ||| T) := by
  have hn := h.1
  have hp := ag_p64 hn
  have ht64 : tN < 64 := by have := h.2.1; omega
  have hh64 : hd < 64 := by have := h.2.2.1; omega
  intro m
  induction m with
  | zero => intro T h1 h2; omega
  | succ m ih =>
    intro T h1 hT hs
    obtain ⟨hS, hSb⟩ := ag_S h hT hs
    rw [hc T hT, hm _ hS]
    unfold mk_ov lw_val
    rw [if_neg (fun z => z ((ag_b2 T hT tN ht64).mpr hs)), if_pos (ag_b3 T hT hd hh64), ag_mkt h hT hs]
    have hd0 := ag_fd0 (g := lw_off g (nI (hd ||| T)) n) hn
    by_cases c : hs_drop (lw_off g (nI (hd ||| T)) n) n n = 0
    · rw [if_pos (hd0.mpr c), if_pos c]
      unfold mk_beh
      by_cases c2 : nI T = nI tN
      · rw [if_pos c2, if_pos ((ag_full h hT hs).mp c2)]
      · rw [if_neg c2, if_neg (fun z => c2 ((ag_full h hT hs).mpr z))]
        have hk : ∀ k, k ≤ n → mk_sumF Fc (nI tN) (nI T) k = lw_sum Fm (hd ||| T) k := by
          intro k
          induction k with
          | zero => intro _; rfl
          | succ k ihk =>
            intro hk
            have hx := ag_next h hT hs (i := k) (by omega)
            rw [mk_sumF, lw_sum, ihk (by omega), ag_from ht64 hT (by omega)]
            by_cases c3 : tN.testBit k = true ∧ T.testBit k = false
            · obtain ⟨-, e2, -, e4⟩ := lw_or T hT k (by omega)
              have e5 := e4 c3.2
              rw [if_pos c3, if_neg (by rw [hx.mp c3]; decide), ih _ (by omega) e2 (ag_sub_s h hT hs (by omega) c3.1), Nat.or_assoc]
            · rw [if_neg c3, if_pos]
              cases hb : (hd ||| T).testBit k with
              | true => rfl
              | false => exact absurd (hx.mpr hb) c3
        have hk2 : ∀ k, n + k ≤ 6 → mk_sumF Fc (nI tN) (nI T) (n + k) = mk_sumF Fc (nI tN) (nI T) n := by
          intro k
          induction k with
          | zero => intro _; rfl
          | succ k ihk =>
            intro hk
            rw [show n + (k + 1) = (n + k) + 1 by omega, mk_sumF, ihk (by omega), ag_from ht64 hT (by omega), if_neg]
            · simp
            · rintro ⟨z, -⟩
              have := ((h.2.2.2.1 (n + k) (by omega)).mp z).1
              omega
        rw [← hk n (Nat.le_refl n), ← hk2 (6 - n) (by omega), show n + (6 - n) = 6 by omega]
    · rw [if_neg (fun z => c (hd0.mp z)), if_neg c]
def ag_bR (n tN T : Nat) (bc bm : Int32) : Prop := (bc = hs_NONE ∧ bm = -1) ∨ ∃ b, b < n ∧ bc = nI b ∧ bm = nI b ∧ tN.testBit b = true ∧ T.testBit b = false
theorem ag_nd (h : ag_TH g n tN hd) {Fc Fm : Nat → Int32} (hF : ∀ T, T < 64 → ag_sub_ T tN → Fc T = Fm (hd ||| T)) {T : Nat} (hT : T < 64) (hs : ag_sub_ T tN) : ag_bR n tN T (mk_nd Fc (nI tN) (nI T) hs_NONE 6) (lw_nx Fm (hd ||| T) (-1) n) := by
  have hn := h.1
  have hp := ag_p64 hn
  have ht64 : tN < 64 := by have := h.2.1; omega
  have e6 : ∀ k, n + k ≤ 6 → mk_nd Fc (nI tN) (nI T) hs_NONE (n + k) = mk_nd Fc (nI tN) (nI T) hs_NONE n := by
    intro k
    induction k with
    | zero => intro _; rfl
    | succ k ihk =>
      intro hk
      have hf : mk_from Fc (nI tN) (nI T) (nI (n + k)) = 0 := by
        rw [ag_from ht64 hT (by omega), if_neg]
        rintro ⟨z, -⟩
        have := ((h.2.2.2.1 (n + k) (by omega)).mp z).1
        omega
      rw [show n + (k + 1) = (n + k) + 1 by omega, mk_nd, hf, if_neg (by decide), ihk (by omega)]
  have key : ∀ q, q ≤ n → ∀ bc bm, ag_bR n tN T bc bm → ag_bR n tN T (mk_nd Fc (nI tN) (nI T) bc q) (lw_nx Fm (hd ||| T) bm q) := by
    intro q
    induction q with
    | zero => intro _ bc bm hb; exact hb
    | succ q ih =>
      intro hq bc bm hb
      have hx := ag_next h hT hs (i := q) (by omega)
      rw [mk_nd, lw_nx, ag_from ht64 hT (by omega)]
      by_cases c3 : tN.testBit q = true ∧ T.testBit q = false
      · obtain ⟨-, e2, -, e4⟩ := lw_or T hT q (by omega)
        rw [if_pos c3, hF _ e2 (ag_sub_s h hT hs (by omega) c3.1), ← Nat.or_assoc]
        by_cases c4 : 0 < Fm (hd ||| T ||| 2 ^ q)
        · rw [if_pos c4, if_pos ⟨hx.mp c3, c4⟩]
          exact ih (by omega) _ _ (Or.inr ⟨q, by omega, rfl, rfl, c3.1, c3.2⟩)
        · rw [if_neg c4, if_neg (fun z => c4 z.2)]
          exact ih (by omega) _ _ hb
      · rw [if_neg c3, if_neg (by decide), if_neg (fun z => c3 (hx.mpr z.1))]
        exact ih (by omega) _ _ hb
  rw [← show n + (6 - n) = 6 by omega, e6 (6 - n) (by omega)]
  exact key n (Nat.le_refl n) _ _ (Or.inl ⟨rfl, rfl⟩)
theorem ag_go (h : ag_TH g n tN hd) {Fc Fm : Nat → Int32} (hF : ∀ T, T < 64 → ag_sub_ T tN → Fc T = Fm (hd ||| T)) : ∀ k T, T < 64 → ag_sub_ T tN → mk_ifo Fc (nI tN) k (nI T) = lw_go Fm n k (hd ||| T) := by
  have hn := h.1
  intro k
  induction k with
  | zero =>
    intro T hT hs
    rw [mk_ifo, lw_go]
    rcases ag_nd h hF hT hs with ⟨a, b⟩ | ⟨b, b1, b2, b3, b4, b5⟩
    · rw [a, b, if_pos (by decide)]
    · rw [b2, b3, if_neg (nI_pos (by omega))]
  | succ k ih =>
    intro T hT hs
    rw [mk_ifo, lw_go]
    rcases ag_nd h hF hT hs with ⟨a, b⟩ | ⟨b, b1, b2, b3, b4, b5⟩
    · rw [a, b, if_pos rfl, if_pos (show (-1 : Int32) < 0 by decide)]
    · obtain ⟨e1, e2, -⟩ := lw_or T hT b (by omega)
      rw [b2, b3, if_neg (nI_pos (by omega)), if_neg (ag_nN (by omega)), e1, nI_clamp (by omega), ih _ e2 (ag_sub_s h hT hs (by omega) b4), Nat.or_assoc]
end AGU
theorem ag_unloaded {C M : Nat → Nat → Int32} {n : Nat} (hE : ag_E C M) (hs : mk_sr (M 0) n) (h4 : M 0 4 = 0 ↔ M 0 2 = 0) (k : Int32) : ag_2 (cs_unloaded C (M 0) n k) (sp_unl M n k) := by
  have hTH := ag_TH_ok hs
  have hn := hs.2.1
  have hp := ag_p64 hn
  have ht64 : mk_toN (M 0) n < 64 := by have := hTH.2.1; omega
  have hto : mk_to (M 0) n = nI (mk_toN (M 0) n) := (mk_to_n (M 0) n hn).1
  unfold cs_unloaded sp_unl
  by_cases c : M 0 2 = 0
  · rw [if_pos c, if_pos (h4.mpr c)]; exact ag_2r hE _
  rw [if_neg c, if_neg (fun z => c (h4.mp z))]
  have hin : (k < -1 ∨ ¬ k < 6) ↔ hs_in k (-1) 5 = 0 := by
    rw [hs_inX]
    have e5 : ¬ k < 6 ↔ 5 < k := by
      rw [Int32.lt_iff_toInt_lt, Int32.lt_iff_toInt_lt]
      have e1 : (6 : Int32).toInt = 6 := rfl
      have e2 : (5 : Int32).toInt = 5 := rfl
      omega
    rw [e5]
    by_cases z : k < -1 ∨ 5 < k
    · rw [if_pos z]; exact ⟨fun _ => rfl, fun _ => z⟩
    · rw [if_neg z]; exact ⟨fun y => absurd y z, fun y => absurd y (by decide)⟩
  by_cases c2 : hs_in k (-1) 5 = 0
  · rw [if_pos (hin.mpr c2), if_pos c2]; exact ag_2r hE _
  rw [if_neg (fun z => c2 (hin.mp z)), if_neg c2, hto]
  refine ⟨?_, ?_⟩
  · show (if k = -1 then _ else _) = (if k < 0 then _ else _)
    rw [ag_fl_c, ag_fl_m]
    obtain ⟨-, fc⟩ := ag_fl_ok (V := fun o q => mk_ov (M 0) n (nI (mk_toN (M 0) n)) o (nI q)) (ag_dep_c (M 0) n _ ht64) 64 (Nat.le_refl _) (C 20)
    obtain ⟨-, fm⟩ := ag_fl_ok (V := lw_val (M 0) n (lw_hN (M 0) n)) (ag_dep_m (M 0) n _ hn) (2 ^ n) hp (M 15)
    generalize ag_fl (fun o q => mk_ov (M 0) n (nI (mk_toN (M 0) n)) o (nI q)) (C 20) 64 = Fc at fc ⊢
    generalize ag_fl (lw_val (M 0) n (lw_hN (M 0) n)) (M 15) (2 ^ n) = Fm at fm ⊢
    have hF : ∀ T, T < 64 → ag_sub_ T (mk_toN (M 0) n) → Fc T = Fm (lw_hN (M 0) n ||| T) := fun T hT hsT => ag_orders hTH fc fm 64 T (by omega) hT hsT
    have hz : ag_sub_ 0 (mk_toN (M 0) n) := fun i _ hb => by rw [Nat.zero_testBit] at hb; exact absurd hb (by decide)
    have h0 := hF 0 (by omega) hz
    rw [Nat.or_zero] at h0
    have hg := fun j => ag_go hTH hF j 0 (by omega) hz
    rw [h0]
    by_cases c3 : k = -1
    · rw [if_pos c3, if_pos (by rw [c3]; decide)]
    · have hk0 : ¬ k < 0 := hs_ge0 (fun z => c2 (hin.mp (Or.inl z))) c3
      rw [if_neg c3, if_neg hk0]
      have := hg k.toNatClampNeg
      rw [Nat.or_zero] at this
      by_cases c4 : Fm (lw_hN (M 0) n) = 0
      · rw [if_pos c4, if_pos c4]
      · rw [if_neg c4, if_neg c4]
        exact this
  · unfold sp_lay
    exact ag_E_L (ag_E_R (ag_E_R hE (by unfold ag_key; omega) _) (by unfold ag_key; omega) _) (by unfold ag_key; omega) _
