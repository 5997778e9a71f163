/-! THE CLASS ITSELF: what its calls answer, and its numbers behind them -/
theorem ob_oA {oa : Nat → Nat} {D : va_G} {mr : Nat} {im : Nat → Option Nat} (C : Nat → Nat → Int32) (t : Nat → Int32) {q kk : Nat} (h : (q = 3 ∧ kk = 8) ∨ (q = 5 ∧ kk = 17) ∨ (q = 7 ∧ kk = 20) ∨ (q = 8 ∧ kk = 21) ∨ (q = 9 ∧ kk = 22) ∨ (q = 10 ∧ kk = 23)) : ∀ j, j < 27 → j ≠ q → ob_e D oa (va_up C kk t) mr im j = ob_e D oa C mr im j := by
  intro j _ hne
  rcases h with ⟨rfl, rfl⟩ | ⟨rfl, rfl⟩ | ⟨rfl, rfl⟩ | ⟨rfl, rfl⟩ | ⟨rfl, rfl⟩ | ⟨rfl, rfl⟩ <;>
  · match j with
    | 0 => first | rfl | exact absurd rfl hne
    | 1 => first | rfl | exact absurd rfl hne
    | 2 => first | rfl | exact absurd rfl hne
    | 3 => first | rfl | exact absurd rfl hne
    | 4 => first | rfl | exact absurd rfl hne
    | 5 => first | rfl | exact absurd rfl hne
    | 6 => first | rfl | exact absurd rfl hne
    | 7 => first | rfl | exact absurd rfl hne
    | 8 => first | rfl | exact absurd rfl hne
    | 9 => first | rfl | exact absurd rfl hne
    | 10 => first | rfl | exact absurd rfl hne
    | j + 11 => rfl
/-- n items copied within the rows' numbers -/
def cs_cp (t : Nat → Int32) (src dst n : Nat) : Nat → Int32 := fun j => if dst ≤ j ∧ j < dst + n then t (src + (j - dst)) else t j
theorem ob_it_cp (C : Nat → Nat → Int32) (r q x y k : Nat) (hx : x + k ≤ 40) (hy : y + k ≤ 40) : va_cpy (ob_it C r) (ob_it C q) x y k = ob_it (va_up C 5 (cs_cp (C 5) (40 * r + x) (40 * q + y) k)) q := by
  funext j
  simp only [va_cpy, ob_it, cs_cp, va_up_self]
  by_cases h1 : y ≤ j ∧ j < y + k
  · rw [if_pos h1, if_pos (by omega), if_pos (by omega), if_pos (by omega)]
    congr 1
    omega
  · rw [if_neg h1]
    by_cases h2 : j < 40
    · rw [if_pos h2, if_pos h2, if_neg (by omega)]
    · rw [if_neg h2, if_neg h2]
theorem ob_it_cpn (C : Nat → Nat → Int32) (r q x y k z : Nat) (hy : y + k ≤ 40) (hz : z ≠ q) : ob_it (va_up C 5 (cs_cp (C 5) (40 * r + x) (40 * q + y) k)) z = ob_it C z := by
  funext j
  simp only [ob_it, cs_cp, va_up_self]
  by_cases h2 : j < 40
  · rw [if_pos h2, if_pos h2, if_neg (by omega)]
  · rw [if_neg h2, if_neg h2]
theorem ob_oC {oa : Nat → Nat} {D : va_G} {mr : Nat} {im : Nat → Option Nat} (C : Nat → Nat → Int32) {r q x y k : Nat} (hy : y + k ≤ 40) : ∀ j, j < 27 → j ≠ 19 + q → ob_e D oa (va_up C 5 (cs_cp (C 5) (40 * r + x) (40 * q + y) k)) mr im j = ob_e D oa C mr im j := by
  intro j _ hne
  match j with
  | 0 | 1 | 2 | 3 | 4 | 5 | 6 | 7 | 8 | 9 | 10 => rfl
  | j + 11 =>
    show (if j < 8 then _ else _) = if j < 8 then _ else _
    by_cases h8 : j < 8
    · rw [if_pos h8, if_pos h8]
      rfl
    · rw [if_neg h8, if_neg h8, ob_it_cpn C r q x y k (j - 8) hy (by omega)]
section HG
variable {p : Program} {l : Launch} {e : Env} {R : Room} {s : State} {m : MethodId} {args : Array Value} {below : List Frame} {meth : Method} {c : Code} {H : Heap} {locs : List Loc} {cells slots : Nat} {Q : State → Prop}
variable {cc : ByteArray} {nL : Nat} {Ts : List Cond} {own : String} {D : va_G} {b0 : Nat} {L : List Nat} {f : Nat → va_E} {pc : Nat} {ls : Array Slot} {rest st : List Value} {a : Nat} {mk : Nat} {ad : Nat → Nat} {n : Nat} {g : Nat → Int32} {oa : Nat → Nat} {C : Nat → Nat → Int32} {mr : Nat} {im : Nat → Option Nat}
/-- System.arraycopy over int arrays -/
theorem hg_copyi (X : hg_C p s m args c cc nL Ts own D b0) (w : hg_W D b0 L f s.heap H locs) {a0 a1 n0 n1 : Nat} {t0 t1 : Nat → Int32} (ha0 : a0 ∈ L) (hf0 : f a0 = .inl (D.1 11, n0, .inl t0)) (ha1 : a1 ∈ L) (hf1 : f a1 = .inl (D.1 11, n1, .inl t1)) {sp dp k : Int32} (i0 j0 k0 : Nat) (e1 : sp = nI i0) (e2 : dp = nI j0) (e3 : k = nI k0) (h4 : i0 + k0 ≤ n0) (h5 : j0 + k0 ≤ n1) (hn0 : n0 < 2 ^ 31) (hn1 : n1 < 2 ^ 31) {index : Nat}
    (hlink : Cond.methodLink own index arraycopyName ∈ Ts) (hnat : Cond.native arraycopyName ∈ Ts) (hstat : Cond.static arraycopyName ∈ Ts) (hini : Cond.initialized "java/lang/System" ∈ Ts) (hls : ls.size = nL) (hfr : 1 ≤ R.frames) (hlo : (rest.map fun v => v.category).sum + 18 ≤ R.locals) (hdg : decode cc pc = .ok (.invokestatic index, 3))
    (kk : ∀ (H1 : Heap) (locs1 : List Loc), hg_W D b0 L (va_up f a1 (.inl (D.1 11, n1, .inl (va_cpy t0 t1 i0 j0 k0)))) s.heap H1 locs1 → W p l e R s m args below meth c H1 locs1 cells slots Q (F0 m (pc + 3) ls rest)) : W p l e R s m args below meth c H locs cells slots Q (F0 m pc ls (.int k :: .int dp :: .ref a1 :: .int sp :: .ref a0 :: rest)) := by
  obtain ⟨⟨hx, hb, hml, hown, hts⟩, hK, hb0⟩ := X
  obtain ⟨q0, hq0⟩ := hg_at ha0 hf0
  obtain ⟨q1, hq1⟩ := hg_at ha1 hf1
  subst e1 e2 e3
  have c1 : (nI i0).toNatClampNeg = i0 := nI_clamp (by omega)
  have c2 : (nI j0).toNatClampNeg = j0 := nI_clamp (by omega)
  have c3 : (nI k0).toNatClampNeg = k0 := nI_clamp (by omega)
  refine va_copyi hx hb (hml.trans hls.symm) hown (hts _ hlink) (hts _ hnat) (hts _ hstat) (hts _ hini) hK.1 w.1.1 w.1.2 w.2 q0 q1 0 0 (ty := .int) hq0 hq1 rfl rfl rfl (nI_pos (by omega)) (nI_pos (by omega)) (nI_pos (by omega)) (by rw [c1, c3]; exact h4) (by rw [c2, c3]; exact h5) (fun _ _ => rfl) hfr hlo hdg (fun H1 locs1 h1 h2 h3 => ?_)
  rw [c1, c2, c3, hg_up w.1.2 ha1 hq1] at h1 h2
  exact kk H1 locs1 ⟨⟨h1, h2⟩, h3⟩
/-- the oldest act forgotten: a row of 24 numbers moved down by one -/
theorem ob_shift (X : hg_C p s m args c cc nL Ts own D b0) (w : hg_W D b0 L (ob_W D f oa C mr im mk ad n g) s.heap H locs) (ho : ob_ok L oa mk ad n) (q kx : Nat) (hqk : (q = 8 ∧ kx = 21) ∨ (q = 9 ∧ kx = 22) ∨ (q = 10 ∧ kx = 23)) {sp dp k : Int32} (e1 : sp = nI 1) (e2 : dp = nI 0) (e3 : k = nI 23) {index : Nat}
    (hlink : Cond.methodLink own index arraycopyName ∈ Ts) (hnat : Cond.native arraycopyName ∈ Ts) (hstat : Cond.static arraycopyName ∈ Ts) (hini : Cond.initialized "java/lang/System" ∈ Ts) (hls : ls.size = nL) (hfr : 1 ≤ R.frames) (hlo : (rest.map fun v => v.category).sum + 18 ≤ R.locals) (hdg : decode cc pc = .ok (.invokestatic index, 3))
    (kk : ∀ (H1 : Heap) (locs1 : List Loc), hg_W D b0 L (ob_W D f oa (va_up C kx (va_cpy (C kx) (C kx) 1 0 23)) mr im mk ad n g) s.heap H1 locs1 → W p l e R s m args below meth c H1 locs1 cells slots Q (F0 m (pc + 3) ls rest)) : W p l e R s m args below meth c H locs cells slots Q (F0 m pc ls (.int k :: .int dp :: .ref (oa q) :: .int sp :: .ref (oa q) :: rest)) := by
  have hq : q < 27 := by omega
  have he : ob_e D oa C mr im q = .inl (D.1 11, 24, .inl (C kx)) := by rcases hqk with ⟨rfl, rfl⟩ | ⟨rfl, rfl⟩ | ⟨rfl, rfl⟩ <;> rfl
  have he' : ob_e D oa (va_up C kx (va_cpy (C kx) (C kx) 1 0 23)) mr im q = .inl (D.1 11, 24, .inl (va_cpy (C kx) (C kx) 1 0 23)) := by rcases hqk with ⟨rfl, rfl⟩ | ⟨rfl, rfl⟩ | ⟨rfl, rfl⟩ <;> rfl
  have hA := (ow_at (D := D) (f := f) (C := C) (mr := mr) (im := im) (g := g) ho hq).trans he
  refine hg_copyi X w (ho.1 q hq).1 hA (ho.1 q hq).1 hA 1 0 23 e1 e2 e3 (by omega) (by omega) (by decide) (by decide) hlink hnat hstat hini hls hfr hlo hdg (fun H1 locs1 w1 => kk H1 locs1 ?_)
  rw [← he', ow_up ho hq (ob_oA C _ (by omega))] at w1
  exact w1
theorem ob_copy (X : hg_C p s m args c cc nL Ts own D b0) (w : hg_W D b0 L (ob_W D f oa C mr im mk ad n g) s.heap H locs) (ho : ob_ok L oa mk ad n) {r q : Nat} (hr : r < 8) (hq : q < 8) {sp dp k : Int32} (i0 j0 k0 : Nat) (e1 : sp = nI i0) (e2 : dp = nI j0) (e3 : k = nI k0) (h4 : i0 + k0 ≤ 40) (h5 : j0 + k0 ≤ 40) {index : Nat}
    (hlink : Cond.methodLink own index arraycopyName ∈ Ts) (hnat : Cond.native arraycopyName ∈ Ts) (hstat : Cond.static arraycopyName ∈ Ts) (hini : Cond.initialized "java/lang/System" ∈ Ts) (hls : ls.size = nL) (hfr : 1 ≤ R.frames) (hlo : (rest.map fun v => v.category).sum + 18 ≤ R.locals) (hdg : decode cc pc = .ok (.invokestatic index, 3))
    (kk : ∀ (H1 : Heap) (locs1 : List Loc), hg_W D b0 L (ob_W D f oa (va_up C 5 (cs_cp (C 5) (40 * r + i0) (40 * q + j0) k0)) mr im mk ad n g) s.heap H1 locs1 → W p l e R s m args below meth c H1 locs1 cells slots Q (F0 m (pc + 3) ls rest)) : W p l e R s m args below meth c H locs cells slots Q (F0 m pc ls (.int k :: .int dp :: .ref (oa (19 + q)) :: .int sp :: .ref (oa (19 + r)) :: rest)) := by
  have h0 := (ow_at (D := D) (f := f) (C := C) (mr := mr) (im := im) (g := g) ho (k := 19 + r) (by omega)).trans ob_eI
  have h1 := (ow_at (D := D) (f := f) (C := C) (mr := mr) (im := im) (g := g) ho (k := 19 + q) (by omega)).trans ob_eI
  refine hg_copyi X w (ho.1 (19 + r) (by omega)).1 h0 (ho.1 (19 + q) (by omega)).1 h1 i0 j0 k0 e1 e2 e3 h4 h5 (by decide) (by decide) hlink hnat hstat hini hls hfr hlo hdg (fun H1 locs1 w1 => kk H1 locs1 ?_)
  have he' : ob_e D oa (va_up C 5 (cs_cp (C 5) (40 * r + i0) (40 * q + j0) k0)) mr im (19 + q) = .inl (D.1 11, 40, .inl (va_cpy (ob_it C r) (ob_it C q) i0 j0 k0)) := by rw [ob_eI, ob_it_cp C r q i0 j0 k0 h4 h5]
  rw [← he', ow_up ho (by omega) (ob_oC C h5)] at w1
  exact w1
/-- a row of the class, or none; a stall, or none -/
def cs_ra (oa : Nat → Nat) (row : Int32) : Option Nat := if hs_row row = 0 then none else some (oa (11 + row.toNatClampNeg))
def cs_sa (ad : Nat → Nat) (g : Nat → Int32) (x : Int32) : Option Nat := if hs_isSt g x = 0 then none else some (ad (2 + x.toNatClampNeg))
theorem cs_row_n {x : Int32} (h : x < 0 ∨ 8 ≤ x) : hs_row x = 0 := by
  unfold hs_row hs_in
  rw [if_neg]
  rintro ⟨h1, h2⟩
  rw [Int32.le_iff_toInt_le] at h1 h2
  rcases h with h | h
  · rw [Int32.lt_iff_toInt_lt] at h; omega
  · rw [Int32.le_iff_toInt_le] at h
    have e7 : (7 : Int32).toInt = 7 := rfl
    have e8 : (8 : Int32).toInt = 8 := rfl
    omega
theorem cs_row_s {j : Nat} (h : j < 8) : cs_ra oa (nI j) = some (oa (11 + j)) := by
  unfold cs_ra
  have h1 : hs_row (nI j) = 1 := by
    unfold hs_row hs_in
    rw [if_pos]
    exact ⟨Int32.not_lt.mp (nI_pos (by omega)), nI_le (a := j) (b := 7) (by omega) (by decide)⟩
  rw [h1, if_neg (by decide), nI_clamp (by omega)]
theorem cs_st_1 {j n : Nat} {g : Nat → Int32} (hs : mk_sr g n) (h : j < n) : hs_isSt g (nI j) = 1 := by
  unfold hs_isSt hs_in
  have h6 := hs.2.1
  rw [hs.1, if_pos]
  refine ⟨Int32.not_lt.mp (nI_pos (by omega)), ?_⟩
  rw [show nI n - 1 = nI (n - 1) by obtain ⟨k, rfl⟩ : ∃ k, n = k + 1 := ⟨n - 1, by omega⟩; exact nI_pred k]
  exact nI_le (a := j) (b := n - 1) (by omega) (by omega)
theorem cs_st_0 {n : Nat} {g : Nat → Int32} (hs : mk_sr g n) {x : Int32} (h : ¬ ∃ j : Nat, j < n ∧ x = nI j) : hs_isSt g x = 0 := by
  rcases Classical.em (hs_isSt g x = 0) with q | q
  · exact q
  · exfalso
    have h1 := hs_in_1 q
    rw [hs.1] at h1
    have h6 := hs.2.1
    obtain ⟨j, hj, e⟩ := nI_of (Int32.not_lt.mpr h1.1)
    refine h ⟨j, ?_, e⟩
    rw [e] at h1
    rcases Nat.lt_or_ge j n with z | z
    · exact z
    · exfalso
      have h2 := h1.2
      rw [Int32.le_iff_toInt_le] at h2
      rcases Nat.eq_zero_or_pos n with z0 | z0
      · subst z0
        have e1 : (nI 0 - 1 : Int32).toInt = -1 := by decide
        have h3 := h1.1
        rw [Int32.le_iff_toInt_le] at h3
        have e0 : (0 : Int32).toInt = 0 := rfl
        omega
      · rw [show nI n - 1 = nI (n - 1) by obtain ⟨k, rfl⟩ : ∃ k, n = k + 1 := ⟨n - 1, by omega⟩; exact nI_pred k, ← Int32.le_iff_toInt_le] at h2
        have h4 := nI_lt (a := n - 1) (b := j) (by omega) (by omega)
        exact absurd h4 (Int32.not_lt.mpr h2)
theorem ob_qr {row : Int32} (h1 : hs_row row = 0 → W p l e R s m args below meth c H locs cells slots Q (F0 m pc ls (.null :: rest))) (h2 : ∀ j, j < 8 → row = nI j → W p l e R s m args below meth c H locs cells slots Q (F0 m pc ls (.ref (oa (11 + j)) :: rest))) : W p l e R s m args below meth c H locs cells slots Q (F0 m pc ls (va_rf (cs_ra oa row) :: rest)) := by
  by_cases h : hs_row row = 0
  · rw [cs_ra, if_pos h]; exact h1 h
  · obtain ⟨j, hj, e⟩ := hs_row_1 h
    have := h2 j hj e
    rw [e, cs_row_s hj]
    exact this
theorem ob_qs {x : Int32} (hs : mk_sr g n) (h1 : hs_isSt g x = 0 → W p l e R s m args below meth c H locs cells slots Q (F0 m pc ls (.null :: rest))) (h2 : ∀ j, j < n → x = nI j → W p l e R s m args below meth c H locs cells slots Q (F0 m pc ls (.ref (ad (2 + j)) :: rest))) : W p l e R s m args below meth c H locs cells slots Q (F0 m pc ls (va_rf (cs_sa ad g x) :: rest)) := by
  by_cases h : hs_isSt g x = 0
  · rw [cs_sa, if_pos h]; exact h1 h
  · have h6 := hs.2.1
    obtain ⟨j, hj, e⟩ : ∃ j : Nat, j < n ∧ x = nI j := Classical.byContradiction (fun q => h (cs_st_0 hs q))
    have := h2 j hj e
    rw [e, cs_sa, if_neg (by rw [← e]; exact h), nI_clamp (by omega)]
    exact this
end HG
