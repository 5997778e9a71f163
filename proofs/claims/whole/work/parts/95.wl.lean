/-! THE LAW'S WORLD: who lies where, what each holds. Colours: 0 the object, 1 the reference, 2 the market, 3 and 4 the images, 9 what nobody holds any more -/
def mo_H (D : va_G) (F : Nat → va_E) (mo : Nat) (ma : Nat → Nat) (M : Nat → Nat → Int32) : Prop := F mo = .inr (10, mo_fs ma M) ∧ ∀ k ∈ mo_ks, F (ma k) = mo_ar D k (M k)
theorem mo_self {D : va_G} {F : Nat → va_E} {mo : Nat} {ma : Nat → Nat} {M : Nat → Nat → Int32} (h : mo_H D F mo ma M) : mo_F D F mo ma M = F := by
  funext a
  unfold mo_F
  by_cases c : a = mo
  · rw [if_pos c, c]; exact h.1.symm
  · rw [if_neg c]
    cases hq : mo_ks.find? (fun k => decide (ma k = a)) with
    | none => rfl
    | some j =>
      have h3 : ma j = a := by simpa using List.find?_some hq
      show mo_ar D j (M j) = F a
      rw [← h3]
      exact (h.2 j (List.mem_of_find?_eq_some hq)).symm
theorem mo_H_F {L : List Nat} {D : va_G} {f : Nat → va_E} {mo : Nat} {ma : Nat → Nat} {M : Nat → Nat → Int32} (hm : mo_ok L mo ma) : mo_H D (mo_F D f mo ma M) mo ma M := ⟨mo_at0 D f mo ma M, fun _ hk => mo_atk hm D f M hk⟩
theorem mk_H_fr {D : va_G} {F F' : Nat → va_E} {q : Nat} {ad : Nat → Nat} {n : Nat} {g : Nat → Int32} (h : mk_H D F q ad n g) (h1 : F' q = F q) (h2 : ∀ j, j < n + 2 → F' (ad j) = F (ad j)) : mk_H D F' q ad n g := ⟨h1.trans h.1, fun k hk => (h2 k hk).trans (h.2 k hk)⟩
theorem mk_ok_L {L L' : List Nat} {q : Nat} {ad : Nat → Nat} {n : Nat} (h : mk_ok L q ad n) (hL : ∀ a ∈ L, a ∈ L') : mk_ok L' q ad n := ⟨hL _ h.1, fun k hk => ⟨hL _ (h.2.1 k hk).1, (h.2.1 k hk).2⟩, h.2.2⟩
theorem ob_ok_L {L L' : List Nat} {oa : Nat → Nat} {q : Nat} {ad : Nat → Nat} {n : Nat} (h : ob_ok L oa q ad n) (hL : ∀ a ∈ L, a ∈ L') : ob_ok L' oa q ad n := ⟨fun k hk => ⟨hL _ (h.1 k hk).1, (h.1 k hk).2⟩, h.2⟩
theorem mo_ok_L {L L' : List Nat} {mo : Nat} {ma : Nat → Nat} (h : mo_ok L mo ma) (hL : ∀ a ∈ L, a ∈ L') : mo_ok L' mo ma := ⟨hL _ h.1, fun k hk => ⟨hL _ (h.2.1 k hk).1, (h.2.1 k hk).2⟩, h.2.2⟩
def wl_im (D : va_G) (L : List Nat) (F : Nat → va_E) (col : Nat → Nat) (M : Nat → Nat → Int32) (k : Nat) (o : Option Nat) : Prop := (o = none ∧ M 2 k = 0) ∨ ∃ q ad n nr, o = some q ∧ M 2 k = 1 ∧ mk_H D F q ad n (fun j => M 0 (50 * (k + 1) + j)) ∧ mk_ok L q ad n ∧ ag_V (fun j => M 0 (50 * (k + 1) + j)) n nr ∧ M 0 (50 * (k + 1) + 4) = 1 ∧ 1 ≤ nr ∧ col q = 3 + k ∧ ∀ j, j < n + 2 → col (ad j) = 3 + k
def wl_S (D : va_G) (L : List Nat) (F : Nat → va_E) (oa : Nat → Nat) (mo : Nat) (ma : Nat → Nat) (C M : Nat → Nat → Int32) (mk : Nat) (ad : Nat → Nat) (n nr : Nat) (im : Nat → Option Nat) (col : Nat → Nat) : Prop :=
  ob_H D F oa C mk im ∧ mk_H D F mk ad n (M 0) ∧ mo_H D F mo ma M ∧ ob_ok L oa mk ad n ∧ mk_ok L mk ad n ∧ mo_ok L mo ma ∧ (∀ k, k < 27 → col (oa k) = 0) ∧ (col mk = 2 ∧ ∀ j, j < n + 2 → col (ad j) = 2) ∧ (col mo = 1 ∧ ∀ k ∈ mo_ks, col (ma k) = 1) ∧ (∀ k, k < 2 → wl_im D L F col M k (im k)) ∧ ∃ a, ag_I C M n nr a
section WL
variable {D : va_G} {L L' : List Nat} {F F' : Nat → va_E} {oa : Nat → Nat} {mo : Nat} {ma : Nat → Nat} {C M : Nat → Nat → Int32} {mk : Nat} {ad : Nat → Nat} {n nr : Nat} {im : Nat → Option Nat} {col : Nat → Nat}
theorem wl_W (h : wl_S D L F oa mo ma C M mk ad n nr im col) : ob_W D F oa C mk im mk ad n (M 0) = F := by
  unfold ob_W
  rw [ob_self h.1, mk_self h.2.1]
theorem wl_out {C' : Nat → Nat → Int32} {mr' : Nat} {im' : Nat → Option Nat} {mk2 : Nat} {ad2 : Nat → Nat} {n2 : Nat} {g' : Nat → Int32} {a : Nat} (h1 : ∀ k, k < 27 → oa k ≠ a) (h2 : a ≠ mk2) (h3 : ∀ j, j < n2 + 2 → ad2 j ≠ a) : ob_W D F oa C' mr' im' mk2 ad2 n2 g' a = F a := by
  unfold ob_W
  rw [mk_out h2 h3, ob_out h1]
theorem wl_1 (h : wl_S D L F oa mo ma C M mk ad n nr im col) {C' : Nat → Nat → Int32} {g' : Nat → Int32} {a : Nat} (h0 : col a ≠ 0) (h2 : col a ≠ 2) : ob_W D F oa C' mk im mk ad n g' a = F a := by
  obtain ⟨-, -, -, -, -, -, k7, k8, -⟩ := h
  exact wl_out (fun k hk e => h0 (by rw [← e]; exact k7 k hk)) (fun e => h2 (by rw [e]; exact k8.1)) (fun j hj e => h2 (by rw [← e]; exact k8.2 j hj))
theorem wl_mo (h : wl_S D L F oa mo ma C M mk ad n nr im col) (C' : Nat → Nat → Int32) (g' : Nat → Int32) : mo_H D (ob_W D F oa C' mk im mk ad n g') mo ma M := by
  obtain ⟨-, -, k3, -, -, -, -, -, k9, -⟩ := id h
  exact ⟨(wl_1 h (by rw [k9.1]; decide) (by rw [k9.1]; decide)).trans k3.1, fun k hk => (wl_1 h (by rw [k9.2 k hk]; decide) (by rw [k9.2 k hk]; decide)).trans (k3.2 k hk)⟩
theorem wl_im_c {col' : Nat → Nat} {M' : Nat → Nat → Int32} {k : Nat} {o : Option Nat} (hk : k < 2) (hF : ∀ a ∈ L, col a = 3 + k → F' a = F a) (hL : ∀ a ∈ L, a ∈ L') (hc : ∀ a ∈ L, col a = 3 + k → col' a = 3 + k) (hM : ∀ j, 50 * (k + 1) ≤ j → j < 50 * (k + 1) + 50 → M' 0 j = M 0 j) (h2 : M' 2 k = M 2 k) (h : wl_im D L F col M k o) : wl_im D L' F' col' M' k o := by
  rcases h with ⟨h1, h3⟩ | ⟨q, ad, n, nr, h1, h3, h4, h5, h6, h7, h8, h9, h10⟩
  · exact Or.inl ⟨h1, by rw [h2]; exact h3⟩
  · have e : ∀ j, j < 50 → (fun j => M 0 (50 * (k + 1) + j)) j = (fun j => M' 0 (50 * (k + 1) + j)) j := fun j hj => (hM _ (by omega) (by omega)).symm
    refine Or.inr ⟨q, ad, n, nr, h1, by rw [h2]; exact h3, mk_H_c h6.1.1.2.1 e (mk_H_fr h4 (hF _ h5.1 h9) (fun j hj => hF _ (h5.2.1 j hj).1 (h10 j hj))), mk_ok_L h5 hL, ag_V_c e h6, by rw [hM _ (by omega) (by omega)]; exact h7, h8, hc _ h5.1 h9, fun j hj => hc _ (h5.2.1 j hj).1 (h10 j hj)⟩
/-- a call that makes nothing, on both sides -/
theorem wl_ord (h : wl_S D L F oa mo ma C M mk ad n nr im col) {P : cs_T} {q : sp_S} (hs : ag_st M n nr P q) : wl_S D L (mo_F D (ob_W D F oa P.2.1 mk im mk ad n P.2.2) mo ma q.2) oa mo ma P.2.1 q.2 mk ad n nr im col := by
  obtain ⟨k1, k2, k3, k4, k5, k6, k7, k8, k9, k10, -⟩ := id h
  obtain ⟨s1, s2, s3, s4, s5⟩ := hs
  obtain ⟨a2, i2⟩ := id s2
  have hn : n ≤ 6 := i2.2.2.2.2.2.2.1.1.1.2.1
  have out1 : ∀ a, col a ≠ 1 → mo_F D (ob_W D F oa P.2.1 mk im mk ad n P.2.2) mo ma q.2 a = ob_W D F oa P.2.1 mk im mk ad n P.2.2 a := fun a ha => mo_out (fun e => ha (by rw [e]; exact k9.1)) (fun k hk e => ha (by rw [← e]; exact k9.2 k hk))
  refine ⟨fun k hk => ?_, ?_, mo_H_F k6, k4, k5, k6, k7, k8, k9, fun k hk => ?_, s2⟩
  · rw [out1 _ (by rw [k7 k hk]; decide)]
    unfold ob_W
    rw [mk_out (k4.1 k hk).2.1 (k4.1 k hk).2.2, ob_at k4.2 hk]
  · refine mk_H_c hn s3 (mk_H_fr (F := ob_W D F oa P.2.1 mk im mk ad n P.2.2) (mk_H_F k5) (out1 mk (by rw [k8.1]; decide)) (fun j hj => out1 (ad j) (by rw [k8.2 j hj]; decide)))
  · exact wl_im_c hk (fun a _ hc => (out1 a (by omega)).trans (wl_1 h (by omega) (by omega))) (fun a ha => ha) (fun a _ hc => hc) (fun j h1 h2 => s4 j (by omega) (by omega)) (by rw [s5]) (k10 k hk)
/-- more cells, those that were there as they were -/
theorem wl_more (h : wl_S D L F oa mo ma C M mk ad n nr im col) (hF : ∀ a ∈ L, F' a = F a) (hL : ∀ a ∈ L, a ∈ L') : wl_S D L' F' oa mo ma C M mk ad n nr im col := by
  obtain ⟨k1, k2, k3, k4, k5, k6, k7, k8, k9, k10, k11⟩ := h
  exact ⟨fun k hk => (hF _ (k4.1 k hk).1).trans (k1 k hk), mk_H_fr k2 (hF _ k5.1) (fun j hj => hF _ (k5.2.1 j hj).1), ⟨(hF _ k6.1).trans k3.1, fun k hk => (hF _ (k6.2.1 k hk).1).trans (k3.2 k hk)⟩, ob_ok_L k4 hL, mk_ok_L k5 hL, mo_ok_L k6 hL, k7, k8, k9, fun k hk => wl_im_c hk (fun a ha _ => hF a ha) hL (fun a _ hc => hc) (fun _ _ _ => rfl) rfl (k10 k hk), k11⟩
/-- new cells coloured c, what had that colour is nobody's -/
def wl_re (col : Nat → Nat) (mk2 : Nat) (ad2 : Nat → Nat) (n2 c : Nat) : Nat → Nat := fun a => if decide (a = mk2) || (List.range (n2 + 2)).any (fun j => decide (ad2 j = a)) then c else if col a = c then 9 else col a
theorem wl_re_m (col : Nat → Nat) (mk2 : Nat) (ad2 : Nat → Nat) (n2 c : Nat) : wl_re col mk2 ad2 n2 c mk2 = c := by
  unfold wl_re
  rw [if_pos (by simp)]
theorem wl_re_a (col : Nat → Nat) (mk2 : Nat) (ad2 : Nat → Nat) (n2 c : Nat) {j : Nat} (hj : j < n2 + 2) : wl_re col mk2 ad2 n2 c (ad2 j) = c := by
  unfold wl_re
  rw [if_pos]
  rw [Bool.or_eq_true, List.any_eq_true]
  exact Or.inr ⟨j, List.mem_range.mpr hj, by simp⟩
theorem wl_re_o (col : Nat → Nat) {mk2 : Nat} {ad2 : Nat → Nat} {n2 c a : Nat} (h1 : a ≠ mk2) (h2 : ∀ j, j < n2 + 2 → ad2 j ≠ a) (h3 : col a ≠ c) : wl_re col mk2 ad2 n2 c a = col a := by
  unfold wl_re
  rw [if_neg, if_neg h3]
  rw [Bool.or_eq_true, List.any_eq_true]
  rintro (z | ⟨j, z1, z2⟩)
  · exact h1 (by simpa using z)
  · exact h2 j (List.mem_range.mp z1) (by simpa using z2)
/-- the market is another, a new one -/
theorem wl_new (h : wl_S D L F oa mo ma C M mk ad n nr im col) {N : List Nat} {C' M' : Nat → Nat → Int32} {mk2 : Nat} {ad2 : Nat → Nat} {n2 nr2 : Nat} {g2 : Nat → Int32} (h1 : mk2 ∉ L) (h2 : ∀ j, j < n2 + 2 → ad2 j ∉ L) (h3 : mk_ok (L ++ N) mk2 ad2 n2) (hg : ∀ F0 : Nat → va_E, mk_H D F0 mk2 ad2 n2 g2 → mk_H D F0 mk2 ad2 n2 (M' 0)) (h4 : ∀ j, 50 ≤ j → j < 150 → M' 0 j = M 0 j) (h5 : M' 2 = M 2) (hI : ∃ a, ag_I C' M' n2 nr2 a) :
    mo_H D (ob_W D (mk_F D F mk ad n (M 0)) oa C' mk2 im mk2 ad2 n2 g2) mo ma M ∧ wl_S D (L ++ N) (mo_F D (ob_W D (mk_F D F mk ad n (M 0)) oa C' mk2 im mk2 ad2 n2 g2) mo ma M') oa mo ma C' M' mk2 ad2 n2 nr2 im (wl_re col mk2 ad2 n2 2) := by
  obtain ⟨k1, k2, k3, k4, k5, k6, k7, k8, k9, k10, -⟩ := id h
  rw [mk_self k2]
  have ne : ∀ a ∈ L, a ≠ mk2 ∧ ∀ j, j < n2 + 2 → ad2 j ≠ a := fun a ha => ⟨fun e => h1 (by rw [← e]; exact ha), fun j hj e => h2 j hj (by rw [e]; exact ha)⟩
  have out0 : ∀ a ∈ L, col a ≠ 0 → ob_W D F oa C' mk2 im mk2 ad2 n2 g2 a = F a := fun a ha hc => wl_out (fun k hk e => hc (by rw [← e]; exact k7 k hk)) (ne a ha).1 (ne a ha).2
  have cs : ∀ a ∈ L, col a ≠ 2 → wl_re col mk2 ad2 n2 2 a = col a := fun a ha hc => wl_re_o col (ne a ha).1 (ne a ha).2 hc
  have hL : ∀ a ∈ L, a ∈ L ++ N := fun a ha => List.mem_append_left _ ha
  have ho2 : ob_ok (L ++ N) oa mk2 ad2 n2 := ob_ok_new k4 h1 h2
  have hmoL : ∀ a, a = mo ∨ (∃ k ∈ mo_ks, ma k = a) → a ∈ L := by
    rintro a (e | ⟨k, hk, e⟩)
    · rw [e]; exact k6.1
    · rw [← e]; exact (k6.2.1 k hk).1
  refine ⟨⟨(out0 mo k6.1 (by rw [k9.1]; decide)).trans k3.1, fun k hk => (out0 _ (k6.2.1 k hk).1 (by rw [k9.2 k hk]; decide)).trans (k3.2 k hk)⟩, fun k hk => ?_, ?_, mo_H_F (mo_ok_L k6 hL), ho2, h3, mo_ok_L k6 hL, fun k hk => by rw [cs _ (k4.1 k hk).1 (by rw [k7 k hk]; decide)]; exact k7 k hk, ⟨wl_re_m _ _ _ _ _, fun j hj => wl_re_a _ _ _ _ _ hj⟩, ⟨by rw [cs _ k6.1 (by rw [k9.1]; decide)]; exact k9.1, fun k hk => by rw [cs _ (k6.2.1 k hk).1 (by rw [k9.2 k hk]; decide)]; exact k9.2 k hk⟩, fun k hk => ?_, hI⟩
  · rw [mo_out (fun e => by have := k7 k hk; rw [e, k9.1] at this; exact absurd this (by decide)) (fun j hj e => by have := k7 k hk; rw [← e, k9.2 j hj] at this; exact absurd this (by decide))]
    unfold ob_W
    rw [mk_out (ho2.1 k hk).2.1 (ho2.1 k hk).2.2, ob_at k4.2 hk]
  · refine hg _ (mk_H_fr (F := ob_W D F oa C' mk2 im mk2 ad2 n2 g2) (mk_H_F h3) (mo_out (fun e => h1 (hmoL _ (Or.inl e))) (fun k hk e => h1 (hmoL _ (Or.inr ⟨k, hk, e⟩)))) (fun j hj => mo_out (fun e => h2 j hj (hmoL _ (Or.inl e))) (fun k hk e => h2 j hj (hmoL _ (Or.inr ⟨k, hk, e⟩)))))
  · refine wl_im_c hk (fun a ha hc => ?_) hL (fun a ha hc => by rw [cs a ha (by omega)]; exact hc) (fun j z1 z2 => h4 j (by omega) (by omega)) (by rw [h5]) (k10 k hk)
    rw [mo_out (fun e => by rw [e, k9.1] at hc; omega) (fun j hj e => by rw [← e, k9.2 j hj] at hc; omega)]
    exact out0 a ha (by omega)
/-- a market made for nothing -/
theorem wl_waste (h : wl_S D L F oa mo ma C M mk ad n nr im col) {N : List Nat} {C' M' : Nat → Nat → Int32} {mk2 : Nat} {ad2 : Nat → Nat} {n2 : Nat} {g2 : Nat → Int32} (h1 : mk2 ∉ L) (h2 : ∀ j, j < n2 + 2 → ad2 j ∉ L) (hs : ∃ r r', ag_st M n nr (r, C', M 0) (r', M')) :
    mo_H D (ob_W D (mk_F D F mk ad n (M 0)) oa C' mk im mk2 ad2 n2 g2) mo ma M ∧ wl_S D (L ++ N) (mo_F D (ob_W D (mk_F D F mk ad n (M 0)) oa C' mk im mk2 ad2 n2 g2) mo ma M') oa mo ma C' M' mk ad n nr im col := by
  obtain ⟨k1, k2, k3, k4, k5, k6, k7, k8, k9, k10, -⟩ := id h
  obtain ⟨r, r', hs⟩ := hs
  have hw := wl_ord h hs
  have e1 : ∀ a ∈ L, ob_W D (mk_F D F mk ad n (M 0)) oa C' mk im mk2 ad2 n2 g2 a = ob_W D F oa C' mk im mk ad n (M 0) a := by
    intro a ha
    show mk_F D (ob_F D (mk_F D F mk ad n (M 0)) oa C' mk im) mk2 ad2 n2 g2 a = mk_F D (ob_F D F oa C' mk im) mk ad n (M 0) a
    rw [mk_out (fun e => h1 (by rw [← e]; exact ha)) (fun j hj e => h2 j hj (by rw [e]; exact ha)), ob_mk_comm k4]
  have hm0 := wl_mo h C' (M 0)
  refine ⟨⟨(e1 _ k6.1).trans hm0.1, fun k hk => (e1 _ (k6.2.1 k hk).1).trans (hm0.2 k hk)⟩, wl_more hw (fun a ha => ?_) (fun a ha => List.mem_append_left _ ha)⟩
  unfold mo_F
  rw [e1 a ha]
/-- an image taken -/
theorem wl_img (h : wl_S D L F oa mo ma C M mk ad n nr im col) {N : List Nat} {M' : Nat → Nat → Int32} {mk2 : Nat} {ad2 : Nat → Nat} {i : Nat} (hi : i < 2) (h1 : mk2 ∉ L) (h2 : ∀ j, j < n + 2 → ad2 j ∉ L) (h3 : mk_ok (L ++ N) mk2 ad2 n) (h4 : ∀ j, j < 50 → M' 0 j = M 0 j) (h5 : ∀ j, j < 50 → M' 0 (50 * (i + 1) + j) = M 0 j) (h6 : ∀ k, k < 2 → k ≠ i → (∀ j, 50 * (k + 1) ≤ j → j < 50 * (k + 1) + 50 → M' 0 j = M 0 j) ∧ M' 2 k = M 2 k) (h7 : M' 2 i = 1) (h8 : M 0 4 = 1) (h9 : 1 ≤ nr) (hI : ∃ a, ag_I C M' n nr a) :
    mo_H D (ob_W D (mk_F D F mk ad n (M 0)) oa C mk (va_up im i (some mk2)) mk2 ad2 n (M 0)) mo ma M ∧ wl_S D (L ++ N) (mo_F D (ob_W D (mk_F D F mk ad n (M 0)) oa C mk (va_up im i (some mk2)) mk2 ad2 n (M 0)) mo ma M') oa mo ma C M' mk ad n nr (va_up im i (some mk2)) (wl_re col mk2 ad2 n (3 + i)) := by
  obtain ⟨k1, k2, k3, k4, k5, k6, k7, k8, k9, k10, a0, i0⟩ := id h
  have hV := i0.2.2.2.2.2.2.1
  have hn : n ≤ 6 := hV.1.1.2.1
  rw [mk_self k2]
  have ne : ∀ a ∈ L, a ≠ mk2 ∧ ∀ j, j < n + 2 → ad2 j ≠ a := fun a ha => ⟨fun e => h1 (by rw [← e]; exact ha), fun j hj e => h2 j hj (by rw [e]; exact ha)⟩
  have out0 : ∀ a ∈ L, col a ≠ 0 → ob_W D F oa C mk (va_up im i (some mk2)) mk2 ad2 n (M 0) a = F a := fun a ha hc => wl_out (fun k hk e => hc (by rw [← e]; exact k7 k hk)) (ne a ha).1 (ne a ha).2
  have cs : ∀ a ∈ L, col a ≠ 3 + i → wl_re col mk2 ad2 n (3 + i) a = col a := fun a ha hc => wl_re_o col (ne a ha).1 (ne a ha).2 hc
  have hL : ∀ a ∈ L, a ∈ L ++ N := fun a ha => List.mem_append_left _ ha
  have ho2 : ob_ok (L ++ N) oa mk2 ad2 n := ob_ok_new k4 h1 h2
  have hmoL : ∀ a, a = mo ∨ (∃ k ∈ mo_ks, ma k = a) → a ∈ L := by
    rintro a (e | ⟨k, hk, e⟩)
    · rw [e]; exact k6.1
    · rw [← e]; exact (k6.2.1 k hk).1
  have outm : ∀ a, col a ≠ 1 → mo_F D (ob_W D F oa C mk (va_up im i (some mk2)) mk2 ad2 n (M 0)) mo ma M' a = ob_W D F oa C mk (va_up im i (some mk2)) mk2 ad2 n (M 0) a := fun a ha => mo_out (fun e => ha (by rw [e]; exact k9.1)) (fun k hk e => ha (by rw [← e]; exact k9.2 k hk))
  refine ⟨⟨(out0 mo k6.1 (by rw [k9.1]; decide)).trans k3.1, fun k hk => (out0 _ (k6.2.1 k hk).1 (by rw [k9.2 k hk]; decide)).trans (k3.2 k hk)⟩, fun k hk => ?_, ?_, mo_H_F (mo_ok_L k6 hL), ob_ok_L k4 hL, mk_ok_L k5 hL, mo_ok_L k6 hL, fun k hk => by rw [cs _ (k4.1 k hk).1 (by rw [k7 k hk]; omega)]; exact k7 k hk, ⟨by rw [cs _ k5.1 (by rw [k8.1]; omega)]; exact k8.1, fun j hj => by rw [cs _ (k5.2.1 j hj).1 (by rw [k8.2 j hj]; omega)]; exact k8.2 j hj⟩, ⟨by rw [cs _ k6.1 (by rw [k9.1]; omega)]; exact k9.1, fun k hk => by rw [cs _ (k6.2.1 k hk).1 (by rw [k9.2 k hk]; omega)]; exact k9.2 k hk⟩, fun k hk => ?_, hI⟩
  · rw [outm _ (by rw [k7 k hk]; decide)]
    unfold ob_W
    rw [mk_out (ho2.1 k hk).2.1 (ho2.1 k hk).2.2, ob_at k4.2 hk]
  · refine mk_H_c hn (fun j hj => (h4 j hj).symm) (mk_H_fr k2 ?_ (fun j hj => ?_))
    · rw [outm _ (by rw [k8.1]; decide)]
      exact out0 _ k5.1 (by rw [k8.1]; decide)
    · rw [outm _ (by rw [k8.2 j hj]; decide)]
      exact out0 _ (k5.2.1 j hj).1 (by rw [k8.2 j hj]; decide)
  · by_cases e : k = i
    · subst e
      rw [va_up_self]
      refine Or.inr ⟨mk2, ad2, n, nr, rfl, h7, ?_, h3, ag_V_c (fun j hj => (h5 j hj).symm) hV, by rw [h5 4 (by omega)]; exact h8, h9, wl_re_m _ _ _ _ _, fun j hj => wl_re_a _ _ _ _ _ hj⟩
      refine mk_H_c hn (fun j hj => (h5 j hj).symm) (mk_H_fr (F := ob_W D F oa C mk (va_up im k (some mk2)) mk2 ad2 n (M 0)) (mk_H_F h3) (mo_out (fun e => h1 (hmoL _ (Or.inl e))) (fun k hk e => h1 (hmoL _ (Or.inr ⟨k, hk, e⟩)))) (fun j hj => mo_out (fun e => h2 j hj (hmoL _ (Or.inl e))) (fun k hk e => h2 j hj (hmoL _ (Or.inr ⟨k, hk, e⟩)))))
    · rw [va_up_ne _ _ e]
      refine wl_im_c hk (fun a ha hc => ?_) hL (fun a ha hc => by rw [cs a ha (by omega)]; exact hc) (h6 k hk e).1 (h6 k hk e).2 (k10 k hk)
      rw [outm a (by omega)]
      exact out0 a ha (by omega)
end WL
