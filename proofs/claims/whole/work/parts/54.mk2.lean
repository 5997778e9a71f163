theorem mk_ro0 {g : Nat → Int32} {nr : Nat} (ht : mk_t g nr) {x : Int32} (h : ¬ ∃ r : Nat, r < nr ∧ x = nI r) : hs_isRo g x = 0 := by
  rcases hs_in_b x 0 (g 2 - 1) with q | q
  · exact q
  · exfalso
    apply h
    have h2 : ¬ hs_in x 0 (nI nr - 1) = 0 := by
      intro z
      rw [← ht.1] at z
      rw [z] at q
      exact absurd q (by decide)
    exact hs_in_jm (by have := ht.2.1; omega) h2
theorem mk_ro1 {g : Nat → Int32} {nr r : Nat} (ht : mk_t g nr) (h : r < nr) : ¬ hs_isRo g (nI r) = 0 := by
  unfold hs_isRo hs_in
  rw [ht.1]
  obtain ⟨m, rfl⟩ : ∃ m, nr = m + 1 := ⟨nr - 1, by omega⟩
  have := ht.2.1
  rw [nI_pred, if_pos ⟨nI_pos' (by omega), nI_le (by omega) (by omega)⟩]
  decide
theorem mk_sag0 {g : Nat → Int32} {n nr : Nat} (ht : mk_t g nr) {rope x : Int32} (h : rope < 0 ∨ 3 ≤ rope) : 0 = hs_sag g n rope x := by
  unfold hs_sag
  rw [if_pos]
  refine mk_ro0 ht (fun q => ?_)
  obtain ⟨r, hr, rfl⟩ := q
  have := ht.2.1
  rcases h with h | h
  · exact nI_pos (by omega) h
  · exact nI_ge (a := r) (b := 3) (by omega) (by decide) h
theorem mk_sag1 {g : Nat → Int32} {n nr r : Nat} (ht : mk_t g nr) (_hr : r < 3) {x : Int32} (h : ¬ 1 ≤ g (5 + r)) : 0 = hs_sag g n (nI r) x := by
  unfold hs_sag
  rw [if_pos]
  refine mk_ro0 ht (fun q => ?_)
  obtain ⟨r', hr', e⟩ := q
  have := ht.2.1
  have e2 : r = r' := (nI_eq (by omega) (by omega)).mp e
  subst e2
  exact h (ht.2.2.1 r hr')
theorem mk_sag2 {g : Nat → Int32} {n nr r : Nat} (hs : mk_sr g n) (ht : mk_t g nr) (hr : r < 3) {x : Int32} (h : 1 ≤ g (5 + r)) : hs_pull g (nI r) x (min 6 n) / g (5 + r) + g 1 = hs_sag g n (nI r) x := by
  have hrn : r < nr := by
    rcases Nat.lt_or_ge r nr with q | q
    · exact q
    · rw [ht.2.2.2 r q hr] at h
      exact absurd h (by decide)
  unfold hs_sag
  have := hs.2.1
  rw [if_neg (mk_ro1 ht hrn), nI_clamp (by omega), show min 6 n = n by omega]
theorem mk_pull_y {g : Nat → Int32} {n k : Nat} {rope x : Int32} (hk : k < n) (h : g (14 + k) = rope) : hs_pull g rope x (min k n) + hs_weight g k * (if g (20 + k) < x then g (20 + k) else x) * (9 - (if x < g (20 + k) then g (20 + k) else x)) = hs_pull g rope x (min (k + 1) n) := by
  rw [show min (k + 1) n = k + 1 by omega, show min k n = k by omega, mk_min, mk_max]
  show _ = hs_pull g rope x k + (if g (14 + k) = rope then _ else _)
  rw [if_pos h]
theorem mk_pull_n {g : Nat → Int32} {n k : Nat} {rope x : Int32} (hk : k < n) (h : ¬ g (14 + k) = rope) : hs_pull g rope x (min k n) = hs_pull g rope x (min (k + 1) n) := by
  rw [show min (k + 1) n = k + 1 by omega, show min k n = k by omega]
  show _ = hs_pull g rope x k + (if g (14 + k) = rope then _ else _)
  rw [if_neg h]
  simp
theorem mk_pull_0 {g : Nat → Int32} {n k : Nat} {rope x : Int32} (hk : ¬ k < n) : hs_pull g rope x (min k n) = hs_pull g rope x (min (k + 1) n) := by
  rw [show min (k + 1) n = min k n by omega]
