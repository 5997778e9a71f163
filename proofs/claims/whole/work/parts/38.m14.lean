theorem hdX12_takesLaw : yX12_takesLaw.cls = RX12 ∧ yX12_takesLaw.cls ≠ "java/lang/invoke/MethodHandle" ∧ yX12_takesLaw.cls ≠ "java/lang/invoke/VarHandle" ∧ (parseMethodDescriptor yX12_takesLaw.desc).map (fun d => d.parameters.length) = some 0 := by decide +kernel
theorem hdX12_takesRope : yX12_takesRope.cls = RX12 ∧ yX12_takesRope.cls ≠ "java/lang/invoke/MethodHandle" ∧ yX12_takesRope.cls ≠ "java/lang/invoke/VarHandle" ∧ (parseMethodDescriptor yX12_takesRope.desc).map (fun d => d.parameters.length) = some 0 := by decide +kernel
theorem hdX12_takesStall : yX12_takesStall.cls = RX12 ∧ yX12_takesStall.cls ≠ "java/lang/invoke/MethodHandle" ∧ yX12_takesStall.cls ≠ "java/lang/invoke/VarHandle" ∧ (parseMethodDescriptor yX12_takesStall.desc).map (fun d => d.parameters.length) = some 0 := by decide +kernel
set_option maxRecDepth 100000 in
set_option maxHeartbeats 4000000 in
/-- isMarket -/
theorem c_X12_isMarket (l : Launch) (D : va_G) (b0 : Nat) (L : List Nat) (f : Nat → va_E) (mo : Nat) (ma : Nat → Nat) (M : Nat → Nat → Int32) (hm : mo_ok L mo ma) (t : Nat) (ht : M 9 0 = nI t) (ht1 : t ≤ 100) (s0 : Nat) (hs0 : M 12 0 = nI s0) : mo_Fi l yX12_isMarket wsX12_isMarket ({ frames := 4, cells := 0, slots := 0, locals := 91 }) D b0 L f mo ma M [] ((ps_market M t s0).1) (mo_ps M (ps_market M t s0).2) := by
  refine hg_in_i (cc := cX12_isMarket) (nL := 2) (by decide) rfl (Nat.le_of_ble_eq_true rfl) (fun p e s m args below meth c R Q X hR hend H locs ls w hl => ?_)
  subst hR
  obtain ⟨hx, hb, hml, hown, hts⟩ := id X.1
  have hin : ∀ w ∈ wsX120, w ∈ wsX12_isMarket := fun w h => List.mem_cons_of_mem _ (List.mem_append_right _ h)
  have hl : lv_has ls 2 [(0, .ref mo)] := hl
  refine lv_iconst (v := 0) hx hb dX12_isMarket_0 (by decide) ?_
  refine lv_istore_n (lv' := [(1, .int (0)), (0, .ref mo)]) hx hb dX12_isMarket_1 rfl hl (by decide) rfl (fun ls hl => ?_)
  have loop0 : ∀ (n0 k : Nat), k ≤ 50 → 50 + 1 ≤ k + n0 → ∀ (H : Heap) (locs : List Loc) (ls : Array Slot), hg_W D b0 L (mo_F D f mo ma (va_up M 0 (hs_z150 (M 0) k))) s.heap H locs → lv_has ls 2 [(0, .ref mo), (1, .int (nI k))] → W p l e ({ frames := 4, cells := 0, slots := 0, locals := 91 }) s m args below meth c H locs 0 0 Q (F0 m 2 ls []) := by
    intro n0
    induction n0 with
    | zero =>
      intro k h1 h2
      exact absurd h2 (by omega)
    | succ n0 ih0 =>
      intro k hk hn0 H locs ls w hl
      refine lv_iload_n hx hb dX12_isMarket_2 rfl (lv_at hl 1 rfl) ?_
      refine lv_bipush (v := 50) hx hb dX12_isMarket_3 (by decide) ?_
      refine lv_icmp_ge (tgt := 25) hx hb dX12_isMarket_5 (by decide) (fun c_5 => ?_) (fun c_5 => ?_)
      · have hk : 50 = k := by
          rcases Nat.lt_or_ge k 50 with q | q
          · exact absurd c_5 (nI_ge (a := k) (b := 50) q (by omega))
          · omega
        subst hk
        refine lv_aload_n hx hb dX12_isMarket_25 rfl (lv_at hl 0 rfl) ?_
        refine lv_iconst (v := 0) hx hb dX12_isMarket_26 (by decide) ?_
        refine mo_put X w hm hin 11 (by decide) (List.mem_of_getElem? (i := 2) rfl) dX12_isMarket_27 (fun H locs w => ?_)
        rw [mo_ps_start hs0] at w
        refine lv_aload_n hx hb dX12_isMarket_30 rfl (lv_at hl 0 rfl) ?_
        refine hg_viF (r := (ps_law M (ps_S0 M s0)).1) (As := []) (rest := []) X w (c_X12_takesLaw l D b0 L f mo ma M hm t ht ht1 (ps_S0 M s0) (Nat.zero_le _)) (cwV 0 hts gX12_isMarket_X12_takesLaw rfl rfl rfl hdX12_takesLaw ⟨Nat.le_of_ble_eq_true rfl, Nat.le_of_ble_eq_true rfl⟩) hm.1 (mo_at0 D f mo ma _) rfl rfl rfl hl.1 rfl (Nat.le_of_ble_eq_true rfl) dX12_isMarket_31 ⟨Nat.zero_le _, Nat.zero_le _⟩ (fun H locs w => ?_)
        refine lv_if_eq (tgt := 48) hx hb dX12_isMarket_34 (by decide) (fun c_34 => ?_) (fun c_34 => ?_)
        · refine lv_iconst (v := 0) hx hb dX12_isMarket_48 (by decide) ?_
          refine lv_istore_n (lv' := [(1, .int (0)), (0, .ref mo)]) hx hb dX12_isMarket_49 rfl hl (by decide) rfl (fun ls hl => ?_)
          have loop1 : ∀ (fu : Nat) (b : Int32) (X0 : ps_S) (r : Nat), X0.2.1 ≤ t → (b = 0 ∨ (b = 1 ∧ X0.1 2 = nI r ∧ r ≤ 3 ∧ X0.1 3 = nI 0 ∧ 4 ≤ r + fu)) → ps_ropes M fu (b, X0) = (ps_ropes M 5 (ps_start M (ps_S0 M s0))) → ∀ (H : Heap) (locs : List Loc) (ls : Array Slot), hg_W D b0 L (mo_F D f mo ma (mo_ps M X0)) s.heap H locs → lv_has ls 2 [(0, .ref mo), (1, .int b)] → W p l e ({ frames := 4, cells := 0, slots := 0, locals := 91 }) s m args below meth c H locs 0 0 Q (F0 m 50 ls []) := by
            intro fu
            induction fu with
            | zero =>
              intro b X0 r hXt hI hT H locs ls w hl
              have hb0 : b = 0 := by
                rcases hI with q | q
                · exact q
                · omega
              subst hb0
              have hE : ((0 : Int32), X0) = (ps_ropes M 5 (ps_start M (ps_S0 M s0))) := hT
              refine lv_iload_n hx hb dX12_isMarket_50 rfl (lv_at hl 1 rfl) ?_
              refine lv_if_eq (tgt := 75) hx hb dX12_isMarket_51 (by decide) (fun c_51 => ?_) (fun c_51 => ?_)
              · have hE1 := hE
                have loop2 : ∀ (fu : Nat) (b : Int32) (X0 : ps_S) (n r : Nat), X0.2.1 ≤ t → (b = 0 ∨ (b = 1 ∧ X0.1 3 = nI n ∧ n ≤ 6 ∧ X0.1 2 = nI r ∧ r ≤ 3 ∧ 7 ≤ n + fu)) → ps_stalls M t fu (b, X0) = (ps_stalls M t 8 (ps_ropes M 5 (ps_start M (ps_S0 M s0)))) → ∀ (H : Heap) (locs : List Loc) (ls : Array Slot), hg_W D b0 L (mo_F D f mo ma (mo_ps M X0)) s.heap H locs → lv_has ls 2 [(0, .ref mo), (1, .int b)] → W p l e ({ frames := 4, cells := 0, slots := 0, locals := 91 }) s m args below meth c H locs 0 0 Q (F0 m 75 ls []) := by
                  intro fu
                  induction fu with
                  | zero =>
                    intro b X0 n r hXt hI hT H locs ls w hl
                    have hb0 : b = 0 := by
                      rcases hI with q | q
                      · exact q
                      · omega
                    subst hb0
                    have hE : ((0 : Int32), X0) = (ps_stalls M t 8 (ps_ropes M 5 (ps_start M (ps_S0 M s0)))) := hT
                    refine lv_iload_n hx hb dX12_isMarket_75 rfl (lv_at hl 1 rfl) ?_
                    refine lv_if_eq (tgt := 98) hx hb dX12_isMarket_76 (by decide) (fun c_76 => ?_) (fun c_76 => ?_)
                    · refine lv_iload_n hx hb dX12_isMarket_98 rfl (lv_at hl 1 rfl) ?_
                      exact hend H locs (0) (L, mo_F D f mo ma (mo_ps M X0)) _ ls w ⟨congrArg Prod.fst hE, congrArg (fun z => (L, mo_F D f mo ma (mo_ps M z.2))) hE⟩ (by decide) dX12_isMarket_99
                    · exact absurd c_76 (by decide)
                  | succ fu ih =>
                    intro b X0 n r hXt hI hT H locs ls w hl
                    rcases hI with hb0 | ⟨hb0, hX3, hn6, hX2, hr3, hfu⟩
                    · subst hb0
                      have hE : ((0 : Int32), X0) = (ps_stalls M t 8 (ps_ropes M 5 (ps_start M (ps_S0 M s0)))) := hT
                      refine lv_iload_n hx hb dX12_isMarket_75 rfl (lv_at hl 1 rfl) ?_
                      refine lv_if_eq (tgt := 98) hx hb dX12_isMarket_76 (by decide) (fun c_76 => ?_) (fun c_76 => ?_)
                      · refine lv_iload_n hx hb dX12_isMarket_98 rfl (lv_at hl 1 rfl) ?_
                        exact hend H locs (0) (L, mo_F D f mo ma (mo_ps M X0)) _ ls w ⟨congrArg Prod.fst hE, congrArg (fun z => (L, mo_F D f mo ma (mo_ps M z.2))) hE⟩ (by decide) dX12_isMarket_99
                      · exact absurd c_76 (by decide)
                    · subst hb0
                      refine lv_iload_n hx hb dX12_isMarket_75 rfl (lv_at hl 1 rfl) ?_
                      refine lv_if_eq (tgt := 98) hx hb dX12_isMarket_76 (by decide) (fun c_76 => ?_) (fun c_76 => ?_)
                      · exact absurd c_76 (by decide)
                      · refine lv_aload_n hx hb dX12_isMarket_79 rfl (lv_at hl 0 rfl) ?_
                        refine mo_get X w hm hin 11 (by decide) (List.mem_of_getElem? (i := 2) rfl) (mo_ps_g11 ma M X0) dX12_isMarket_80 ?_
                        refine lv_aload_n hx hb dX12_isMarket_83 rfl (lv_at hl 0 rfl) ?_
                        refine mo_get X w hm hin 9 (by decide) (List.mem_of_getElem? (i := 3) rfl) (mo_ps_g9 ma M X0) dX12_isMarket_84 ?_
                        refine lv_icmp_ge (tgt := 98) hx hb dX12_isMarket_87 (by decide) (fun c_87 => ?_) (fun c_87 => ?_)
                        · have hge : ¬ X0.2.1 < t := fun q => absurd c_87 (by rw [ht]; exact nI_ge q (by omega))
                          have hE : ((1 : Int32), X0) = (ps_stalls M t 8 (ps_ropes M 5 (ps_start M (ps_S0 M s0)))) := by
                            have h := hT
                            simp only [ps_stalls] at h
                            rw [if_neg (by decide), if_neg hge] at h
                            exact h
                          refine lv_iload_n hx hb dX12_isMarket_98 rfl (lv_at hl 1 rfl) ?_
                          exact hend H locs (1) (L, mo_F D f mo ma (mo_ps M X0)) _ ls w ⟨congrArg Prod.fst hE, congrArg (fun z => (L, mo_F D f mo ma (mo_ps M z.2))) hE⟩ (by decide) dX12_isMarket_99
                        · refine lv_aload_n hx hb dX12_isMarket_90 rfl (lv_at hl 0 rfl) ?_
                          refine hg_viF (r := (ps_stall M X0).1) (As := []) (rest := []) X w (c_X12_takesStall l D b0 L f mo ma M hm t ht ht1 X0 hXt n r hX3 hn6 hX2 hr3) (cwV 0 hts gX12_isMarket_X12_takesStall rfl rfl rfl hdX12_takesStall ⟨Nat.le_of_ble_eq_true rfl, Nat.le_of_ble_eq_true rfl⟩) hm.1 (mo_at0 D f mo ma _) rfl rfl rfl hl.1 rfl (Nat.le_of_ble_eq_true rfl) dX12_isMarket_91 ⟨Nat.zero_le _, Nat.zero_le _⟩ (fun H locs w => ?_)
                          refine lv_istore_n (lv' := [(1, .int ((ps_stall M X0).1)), (0, .ref mo)]) hx hb dX12_isMarket_94 rfl hl (by decide) rfl (fun ls hl => ?_)
                          refine lv_goto (tgt := 75) hx hb dX12_isMarket_95 (by decide) ?_
                          exact ih (ps_stall M X0).1 (ps_stall M X0).2 (n + 1) r (ps_stall_le ht ht1 hXt) (by rcases ps_stall_ok (M := M) hX3 hn6 hX2 with q | ⟨q1, q2, q3, q4⟩; exact Or.inl q; exact Or.inr ⟨q1, q2, q3, q4, hr3, by omega⟩) (by have hlt : X0.2.1 < t := (nI_ltI (by omega) (by omega)).mp (hs_lt (by rw [ht] at c_87; exact c_87)); have h := hT; simp only [ps_stalls] at h; rw [if_neg (by decide), if_pos hlt] at h; exact h) H locs ls w (lv_sub hl [1, 0] rfl)
                exact loop2 8 0 X0 0 0 hXt (Or.inl rfl) (by rw [hE1]) H locs ls w (lv_sub hl [0, 1] rfl)
              · exact absurd c_51 (by decide)
            | succ fu ih =>
              intro b X0 r hXt hI hT H locs ls w hl
              rcases hI with hb0 | ⟨hb0, hX2, hr3, hX3, hfu⟩
              · subst hb0
                have hE : ((0 : Int32), X0) = (ps_ropes M 5 (ps_start M (ps_S0 M s0))) := hT
                refine lv_iload_n hx hb dX12_isMarket_50 rfl (lv_at hl 1 rfl) ?_
                refine lv_if_eq (tgt := 75) hx hb dX12_isMarket_51 (by decide) (fun c_51 => ?_) (fun c_51 => ?_)
                · have hE1 := hE
                  have loop2 : ∀ (fu : Nat) (b : Int32) (X0 : ps_S) (n r : Nat), X0.2.1 ≤ t → (b = 0 ∨ (b = 1 ∧ X0.1 3 = nI n ∧ n ≤ 6 ∧ X0.1 2 = nI r ∧ r ≤ 3 ∧ 7 ≤ n + fu)) → ps_stalls M t fu (b, X0) = (ps_stalls M t 8 (ps_ropes M 5 (ps_start M (ps_S0 M s0)))) → ∀ (H : Heap) (locs : List Loc) (ls : Array Slot), hg_W D b0 L (mo_F D f mo ma (mo_ps M X0)) s.heap H locs → lv_has ls 2 [(0, .ref mo), (1, .int b)] → W p l e ({ frames := 4, cells := 0, slots := 0, locals := 91 }) s m args below meth c H locs 0 0 Q (F0 m 75 ls []) := by
                    intro fu
                    induction fu with
                    | zero =>
                      intro b X0 n r hXt hI hT H locs ls w hl
                      have hb0 : b = 0 := by
                        rcases hI with q | q
                        · exact q
                        · omega
                      subst hb0
                      have hE : ((0 : Int32), X0) = (ps_stalls M t 8 (ps_ropes M 5 (ps_start M (ps_S0 M s0)))) := hT
                      refine lv_iload_n hx hb dX12_isMarket_75 rfl (lv_at hl 1 rfl) ?_
                      refine lv_if_eq (tgt := 98) hx hb dX12_isMarket_76 (by decide) (fun c_76 => ?_) (fun c_76 => ?_)
                      · refine lv_iload_n hx hb dX12_isMarket_98 rfl (lv_at hl 1 rfl) ?_
                        exact hend H locs (0) (L, mo_F D f mo ma (mo_ps M X0)) _ ls w ⟨congrArg Prod.fst hE, congrArg (fun z => (L, mo_F D f mo ma (mo_ps M z.2))) hE⟩ (by decide) dX12_isMarket_99
                      · exact absurd c_76 (by decide)
                    | succ fu ih =>
                      intro b X0 n r hXt hI hT H locs ls w hl
                      rcases hI with hb0 | ⟨hb0, hX3, hn6, hX2, hr3, hfu⟩
                      · subst hb0
                        have hE : ((0 : Int32), X0) = (ps_stalls M t 8 (ps_ropes M 5 (ps_start M (ps_S0 M s0)))) := hT
                        refine lv_iload_n hx hb dX12_isMarket_75 rfl (lv_at hl 1 rfl) ?_
                        refine lv_if_eq (tgt := 98) hx hb dX12_isMarket_76 (by decide) (fun c_76 => ?_) (fun c_76 => ?_)
                        · refine lv_iload_n hx hb dX12_isMarket_98 rfl (lv_at hl 1 rfl) ?_
                          exact hend H locs (0) (L, mo_F D f mo ma (mo_ps M X0)) _ ls w ⟨congrArg Prod.fst hE, congrArg (fun z => (L, mo_F D f mo ma (mo_ps M z.2))) hE⟩ (by decide) dX12_isMarket_99
                        · exact absurd c_76 (by decide)
                      · subst hb0
                        refine lv_iload_n hx hb dX12_isMarket_75 rfl (lv_at hl 1 rfl) ?_
                        refine lv_if_eq (tgt := 98) hx hb dX12_isMarket_76 (by decide) (fun c_76 => ?_) (fun c_76 => ?_)
                        · exact absurd c_76 (by decide)
                        · refine lv_aload_n hx hb dX12_isMarket_79 rfl (lv_at hl 0 rfl) ?_
                          refine mo_get X w hm hin 11 (by decide) (List.mem_of_getElem? (i := 2) rfl) (mo_ps_g11 ma M X0) dX12_isMarket_80 ?_
                          refine lv_aload_n hx hb dX12_isMarket_83 rfl (lv_at hl 0 rfl) ?_
                          refine mo_get X w hm hin 9 (by decide) (List.mem_of_getElem? (i := 3) rfl) (mo_ps_g9 ma M X0) dX12_isMarket_84 ?_
                          refine lv_icmp_ge (tgt := 98) hx hb dX12_isMarket_87 (by decide) (fun c_87 => ?_) (fun c_87 => ?_)
                          · have hge : ¬ X0.2.1 < t := fun q => absurd c_87 (by rw [ht]; exact nI_ge q (by omega))
                            have hE : ((1 : Int32), X0) = (ps_stalls M t 8 (ps_ropes M 5 (ps_start M (ps_S0 M s0)))) := by
                              have h := hT
                              simp only [ps_stalls] at h
                              rw [if_neg (by decide), if_neg hge] at h
                              exact h
                            refine lv_iload_n hx hb dX12_isMarket_98 rfl (lv_at hl 1 rfl) ?_
                            exact hend H locs (1) (L, mo_F D f mo ma (mo_ps M X0)) _ ls w ⟨congrArg Prod.fst hE, congrArg (fun z => (L, mo_F D f mo ma (mo_ps M z.2))) hE⟩ (by decide) dX12_isMarket_99
                          · refine lv_aload_n hx hb dX12_isMarket_90 rfl (lv_at hl 0 rfl) ?_
                            refine hg_viF (r := (ps_stall M X0).1) (As := []) (rest := []) X w (c_X12_takesStall l D b0 L f mo ma M hm t ht ht1 X0 hXt n r hX3 hn6 hX2 hr3) (cwV 0 hts gX12_isMarket_X12_takesStall rfl rfl rfl hdX12_takesStall ⟨Nat.le_of_ble_eq_true rfl, Nat.le_of_ble_eq_true rfl⟩) hm.1 (mo_at0 D f mo ma _) rfl rfl rfl hl.1 rfl (Nat.le_of_ble_eq_true rfl) dX12_isMarket_91 ⟨Nat.zero_le _, Nat.zero_le _⟩ (fun H locs w => ?_)
                            refine lv_istore_n (lv' := [(1, .int ((ps_stall M X0).1)), (0, .ref mo)]) hx hb dX12_isMarket_94 rfl hl (by decide) rfl (fun ls hl => ?_)
                            refine lv_goto (tgt := 75) hx hb dX12_isMarket_95 (by decide) ?_
                            exact ih (ps_stall M X0).1 (ps_stall M X0).2 (n + 1) r (ps_stall_le ht ht1 hXt) (by rcases ps_stall_ok (M := M) hX3 hn6 hX2 with q | ⟨q1, q2, q3, q4⟩; exact Or.inl q; exact Or.inr ⟨q1, q2, q3, q4, hr3, by omega⟩) (by have hlt : X0.2.1 < t := (nI_ltI (by omega) (by omega)).mp (hs_lt (by rw [ht] at c_87; exact c_87)); have h := hT; simp only [ps_stalls] at h; rw [if_neg (by decide), if_pos hlt] at h; exact h) H locs ls w (lv_sub hl [1, 0] rfl)
                  exact loop2 8 0 X0 0 0 hXt (Or.inl rfl) (by rw [hE1]) H locs ls w (lv_sub hl [0, 1] rfl)
                · exact absurd c_51 (by decide)
              · subst hb0
                refine lv_iload_n hx hb dX12_isMarket_50 rfl (lv_at hl 1 rfl) ?_
                refine lv_if_eq (tgt := 75) hx hb dX12_isMarket_51 (by decide) (fun c_51 => ?_) (fun c_51 => ?_)
                · exact absurd c_51 (by decide)
                · refine lv_aload_n hx hb dX12_isMarket_54 rfl (lv_at hl 0 rfl) ?_
                  refine lv_aload_n hx hb dX12_isMarket_55 rfl (lv_at hl 0 rfl) ?_
                  refine mo_get X w hm hin 11 (by decide) (List.mem_of_getElem? (i := 2) rfl) (mo_ps_g11 ma M X0) dX12_isMarket_56 ?_
                  refine hg_viF (r := (hs_byte M X0.2.1)) (As := [.int (nI X0.2.1)]) (rest := []) X w (c_X12_byteAt l D b0 L f mo ma (mo_ps M X0) hm t (mo_ps_9 ht _) ht1 X0.2.1 (by omega)) (cwV 1 hts gX12_isMarket_X12_byteAt rfl rfl rfl hdX12_byteAt ⟨Nat.le_of_ble_eq_true rfl, Nat.le_of_ble_eq_true rfl⟩) hm.1 (mo_at0 D f mo ma _) rfl rfl rfl hl.1 rfl (Nat.le_of_ble_eq_true rfl) dX12_isMarket_59 ⟨Nat.zero_le _, Nat.zero_le _⟩ (fun H locs w => ?_)
                  refine lv_bipush (v := 108) hx hb dX12_isMarket_62 (by decide) ?_
                  refine lv_icmp_ne (tgt := 75) hx hb dX12_isMarket_64 (by decide) (fun c_64 => ?_) (fun c_64 => ?_)
                  · have hE : ((1 : Int32), X0) = (ps_ropes M 5 (ps_start M (ps_S0 M s0))) := by
                      have h := hT
                      simp only [ps_ropes] at h
                      rw [if_neg (by decide), if_neg c_64] at h
                      exact h
                    have hE1 := hE
                    have loop2 : ∀ (fu : Nat) (b : Int32) (X0 : ps_S) (n r : Nat), X0.2.1 ≤ t → (b = 0 ∨ (b = 1 ∧ X0.1 3 = nI n ∧ n ≤ 6 ∧ X0.1 2 = nI r ∧ r ≤ 3 ∧ 7 ≤ n + fu)) → ps_stalls M t fu (b, X0) = (ps_stalls M t 8 (ps_ropes M 5 (ps_start M (ps_S0 M s0)))) → ∀ (H : Heap) (locs : List Loc) (ls : Array Slot), hg_W D b0 L (mo_F D f mo ma (mo_ps M X0)) s.heap H locs → lv_has ls 2 [(0, .ref mo), (1, .int b)] → W p l e ({ frames := 4, cells := 0, slots := 0, locals := 91 }) s m args below meth c H locs 0 0 Q (F0 m 75 ls []) := by
                      intro fu
                      induction fu with
                      | zero =>
                        intro b X0 n r hXt hI hT H locs ls w hl
                        have hb0 : b = 0 := by
                          rcases hI with q | q
                          · exact q
                          · omega
                        subst hb0
                        have hE : ((0 : Int32), X0) = (ps_stalls M t 8 (ps_ropes M 5 (ps_start M (ps_S0 M s0)))) := hT
                        refine lv_iload_n hx hb dX12_isMarket_75 rfl (lv_at hl 1 rfl) ?_
                        refine lv_if_eq (tgt := 98) hx hb dX12_isMarket_76 (by decide) (fun c_76 => ?_) (fun c_76 => ?_)
                        · refine lv_iload_n hx hb dX12_isMarket_98 rfl (lv_at hl 1 rfl) ?_
                          exact hend H locs (0) (L, mo_F D f mo ma (mo_ps M X0)) _ ls w ⟨congrArg Prod.fst hE, congrArg (fun z => (L, mo_F D f mo ma (mo_ps M z.2))) hE⟩ (by decide) dX12_isMarket_99
                        · exact absurd c_76 (by decide)
                      | succ fu ih =>
                        intro b X0 n r hXt hI hT H locs ls w hl
                        rcases hI with hb0 | ⟨hb0, hX3, hn6, hX2, hr3, hfu⟩
                        · subst hb0
                          have hE : ((0 : Int32), X0) = (ps_stalls M t 8 (ps_ropes M 5 (ps_start M (ps_S0 M s0)))) := hT
                          refine lv_iload_n hx hb dX12_isMarket_75 rfl (lv_at hl 1 rfl) ?_
                          refine lv_if_eq (tgt := 98) hx hb dX12_isMarket_76 (by decide) (fun c_76 => ?_) (fun c_76 => ?_)
                          · refine lv_iload_n hx hb dX12_isMarket_98 rfl (lv_at hl 1 rfl) ?_
                            exact hend H locs (0) (L, mo_F D f mo ma (mo_ps M X0)) _ ls w ⟨congrArg Prod.fst hE, congrArg (fun z => (L, mo_F D f mo ma (mo_ps M z.2))) hE⟩ (by decide) dX12_isMarket_99
                          · exact absurd c_76 (by decide)
                        · subst hb0
                          refine lv_iload_n hx hb dX12_isMarket_75 rfl (lv_at hl 1 rfl) ?_
                          refine lv_if_eq (tgt := 98) hx hb dX12_isMarket_76 (by decide) (fun c_76 => ?_) (fun c_76 => ?_)
                          · exact absurd c_76 (by decide)
                          · refine lv_aload_n hx hb dX12_isMarket_79 rfl (lv_at hl 0 rfl) ?_
                            refine mo_get X w hm hin 11 (by decide) (List.mem_of_getElem? (i := 2) rfl) (mo_ps_g11 ma M X0) dX12_isMarket_80 ?_
                            refine lv_aload_n hx hb dX12_isMarket_83 rfl (lv_at hl 0 rfl) ?_
                            refine mo_get X w hm hin 9 (by decide) (List.mem_of_getElem? (i := 3) rfl) (mo_ps_g9 ma M X0) dX12_isMarket_84 ?_
                            refine lv_icmp_ge (tgt := 98) hx hb dX12_isMarket_87 (by decide) (fun c_87 => ?_) (fun c_87 => ?_)
                            · have hge : ¬ X0.2.1 < t := fun q => absurd c_87 (by rw [ht]; exact nI_ge q (by omega))
                              have hE : ((1 : Int32), X0) = (ps_stalls M t 8 (ps_ropes M 5 (ps_start M (ps_S0 M s0)))) := by
                                have h := hT
                                simp only [ps_stalls] at h
                                rw [if_neg (by decide), if_neg hge] at h
                                exact h
                              refine lv_iload_n hx hb dX12_isMarket_98 rfl (lv_at hl 1 rfl) ?_
                              exact hend H locs (1) (L, mo_F D f mo ma (mo_ps M X0)) _ ls w ⟨congrArg Prod.fst hE, congrArg (fun z => (L, mo_F D f mo ma (mo_ps M z.2))) hE⟩ (by decide) dX12_isMarket_99
                            · refine lv_aload_n hx hb dX12_isMarket_90 rfl (lv_at hl 0 rfl) ?_
                              refine hg_viF (r := (ps_stall M X0).1) (As := []) (rest := []) X w (c_X12_takesStall l D b0 L f mo ma M hm t ht ht1 X0 hXt n r hX3 hn6 hX2 hr3) (cwV 0 hts gX12_isMarket_X12_takesStall rfl rfl rfl hdX12_takesStall ⟨Nat.le_of_ble_eq_true rfl, Nat.le_of_ble_eq_true rfl⟩) hm.1 (mo_at0 D f mo ma _) rfl rfl rfl hl.1 rfl (Nat.le_of_ble_eq_true rfl) dX12_isMarket_91 ⟨Nat.zero_le _, Nat.zero_le _⟩ (fun H locs w => ?_)
                              refine lv_istore_n (lv' := [(1, .int ((ps_stall M X0).1)), (0, .ref mo)]) hx hb dX12_isMarket_94 rfl hl (by decide) rfl (fun ls hl => ?_)
                              refine lv_goto (tgt := 75) hx hb dX12_isMarket_95 (by decide) ?_
                              exact ih (ps_stall M X0).1 (ps_stall M X0).2 (n + 1) r (ps_stall_le ht ht1 hXt) (by rcases ps_stall_ok (M := M) hX3 hn6 hX2 with q | ⟨q1, q2, q3, q4⟩; exact Or.inl q; exact Or.inr ⟨q1, q2, q3, q4, hr3, by omega⟩) (by have hlt : X0.2.1 < t := (nI_ltI (by omega) (by omega)).mp (hs_lt (by rw [ht] at c_87; exact c_87)); have h := hT; simp only [ps_stalls] at h; rw [if_neg (by decide), if_pos hlt] at h; exact h) H locs ls w (lv_sub hl [1, 0] rfl)
                    exact loop2 8 1 X0 0 r hXt (Or.inr ⟨rfl, hX3, by omega, hX2, hr3, by omega⟩) (by rw [hE1]) H locs ls w (lv_sub hl [0, 1] rfl)
                  · refine lv_aload_n hx hb dX12_isMarket_67 rfl (lv_at hl 0 rfl) ?_
                    refine hg_viF (r := (ps_rope M X0).1) (As := []) (rest := []) X w (c_X12_takesRope l D b0 L f mo ma M hm t ht ht1 X0 hXt r hX2 hr3) (cwV 0 hts gX12_isMarket_X12_takesRope rfl rfl rfl hdX12_takesRope ⟨Nat.le_of_ble_eq_true rfl, Nat.le_of_ble_eq_true rfl⟩) hm.1 (mo_at0 D f mo ma _) rfl rfl rfl hl.1 rfl (Nat.le_of_ble_eq_true rfl) dX12_isMarket_68 ⟨Nat.zero_le _, Nat.zero_le _⟩ (fun H locs w => ?_)
                    refine lv_istore_n (lv' := [(1, .int ((ps_rope M X0).1)), (0, .ref mo)]) hx hb dX12_isMarket_71 rfl hl (by decide) rfl (fun ls hl => ?_)
                    refine lv_goto (tgt := 50) hx hb dX12_isMarket_72 (by decide) ?_
                    exact ih (ps_rope M X0).1 (ps_rope M X0).2 (r + 1) (ps_rope_le ht ht1 hXt) (by rcases ps_rope_ok (M := M) hX2 hr3 hX3 with q | ⟨q1, q2, q3, q4⟩; exact Or.inl q; exact Or.inr ⟨q1, q2, q3, q4, by omega⟩) (by have h := hT; simp only [ps_ropes] at h; rw [if_neg (by decide), if_pos c_64] at h; exact h) H locs ls w (lv_sub hl [1, 0] rfl)
          exact loop1 5 0 (ps_law M (ps_S0 M s0)).2 0 (ps_law_le ht ht1 (Nat.zero_le _)) (Or.inl rfl) (by rw [ps_start]; simp [c_34]) H locs ls w (lv_sub hl [1, 0] rfl)
        · refine lv_aload_n hx hb dX12_isMarket_37 rfl (lv_at hl 0 rfl) ?_
          refine hg_viF (r := (ps_rope M (ps_law M (ps_S0 M s0)).2).1) (As := []) (rest := []) X w (c_X12_takesRope l D b0 L f mo ma M hm t ht ht1 (ps_law M (ps_S0 M s0)).2 (ps_law_le ht ht1 (Nat.zero_le _)) 0 ((ps_law_h M _ (by decide)).trans rfl) (by decide)) (cwV 0 hts gX12_isMarket_X12_takesRope rfl rfl rfl hdX12_takesRope ⟨Nat.le_of_ble_eq_true rfl, Nat.le_of_ble_eq_true rfl⟩) hm.1 (mo_at0 D f mo ma _) rfl rfl rfl hl.1 rfl (Nat.le_of_ble_eq_true rfl) dX12_isMarket_38 ⟨Nat.zero_le _, Nat.zero_le _⟩ (fun H locs w => ?_)
          refine lv_if_eq (tgt := 48) hx hb dX12_isMarket_41 (by decide) (fun c_41 => ?_) (fun c_41 => ?_)
          · refine lv_iconst (v := 0) hx hb dX12_isMarket_48 (by decide) ?_
            refine lv_istore_n (lv' := [(1, .int (0)), (0, .ref mo)]) hx hb dX12_isMarket_49 rfl hl (by decide) rfl (fun ls hl => ?_)
            have loop1 : ∀ (fu : Nat) (b : Int32) (X0 : ps_S) (r : Nat), X0.2.1 ≤ t → (b = 0 ∨ (b = 1 ∧ X0.1 2 = nI r ∧ r ≤ 3 ∧ X0.1 3 = nI 0 ∧ 4 ≤ r + fu)) → ps_ropes M fu (b, X0) = (ps_ropes M 5 (ps_start M (ps_S0 M s0))) → ∀ (H : Heap) (locs : List Loc) (ls : Array Slot), hg_W D b0 L (mo_F D f mo ma (mo_ps M X0)) s.heap H locs → lv_has ls 2 [(0, .ref mo), (1, .int b)] → W p l e ({ frames := 4, cells := 0, slots := 0, locals := 91 }) s m args below meth c H locs 0 0 Q (F0 m 50 ls []) := by
              intro fu
              induction fu with
              | zero =>
                intro b X0 r hXt hI hT H locs ls w hl
                have hb0 : b = 0 := by
                  rcases hI with q | q
                  · exact q
                  · omega
                subst hb0
                have hE : ((0 : Int32), X0) = (ps_ropes M 5 (ps_start M (ps_S0 M s0))) := hT
                refine lv_iload_n hx hb dX12_isMarket_50 rfl (lv_at hl 1 rfl) ?_
                refine lv_if_eq (tgt := 75) hx hb dX12_isMarket_51 (by decide) (fun c_51 => ?_) (fun c_51 => ?_)
                · have hE1 := hE
                  have loop2 : ∀ (fu : Nat) (b : Int32) (X0 : ps_S) (n r : Nat), X0.2.1 ≤ t → (b = 0 ∨ (b = 1 ∧ X0.1 3 = nI n ∧ n ≤ 6 ∧ X0.1 2 = nI r ∧ r ≤ 3 ∧ 7 ≤ n + fu)) → ps_stalls M t fu (b, X0) = (ps_stalls M t 8 (ps_ropes M 5 (ps_start M (ps_S0 M s0)))) → ∀ (H : Heap) (locs : List Loc) (ls : Array Slot), hg_W D b0 L (mo_F D f mo ma (mo_ps M X0)) s.heap H locs → lv_has ls 2 [(0, .ref mo), (1, .int b)] → W p l e ({ frames := 4, cells := 0, slots := 0, locals := 91 }) s m args below meth c H locs 0 0 Q (F0 m 75 ls []) := by
                    intro fu
                    induction fu with
                    | zero =>
                      intro b X0 n r hXt hI hT H locs ls w hl
                      have hb0 : b = 0 := by
                        rcases hI with q | q
                        · exact q
                        · omega
                      subst hb0
                      have hE : ((0 : Int32), X0) = (ps_stalls M t 8 (ps_ropes M 5 (ps_start M (ps_S0 M s0)))) := hT
                      refine lv_iload_n hx hb dX12_isMarket_75 rfl (lv_at hl 1 rfl) ?_
                      refine lv_if_eq (tgt := 98) hx hb dX12_isMarket_76 (by decide) (fun c_76 => ?_) (fun c_76 => ?_)
                      · refine lv_iload_n hx hb dX12_isMarket_98 rfl (lv_at hl 1 rfl) ?_
                        exact hend H locs (0) (L, mo_F D f mo ma (mo_ps M X0)) _ ls w ⟨congrArg Prod.fst hE, congrArg (fun z => (L, mo_F D f mo ma (mo_ps M z.2))) hE⟩ (by decide) dX12_isMarket_99
                      · exact absurd c_76 (by decide)
                    | succ fu ih =>
                      intro b X0 n r hXt hI hT H locs ls w hl
                      rcases hI with hb0 | ⟨hb0, hX3, hn6, hX2, hr3, hfu⟩
                      · subst hb0
                        have hE : ((0 : Int32), X0) = (ps_stalls M t 8 (ps_ropes M 5 (ps_start M (ps_S0 M s0)))) := hT
                        refine lv_iload_n hx hb dX12_isMarket_75 rfl (lv_at hl 1 rfl) ?_
                        refine lv_if_eq (tgt := 98) hx hb dX12_isMarket_76 (by decide) (fun c_76 => ?_) (fun c_76 => ?_)
                        · refine lv_iload_n hx hb dX12_isMarket_98 rfl (lv_at hl 1 rfl) ?_
                          exact hend H locs (0) (L, mo_F D f mo ma (mo_ps M X0)) _ ls w ⟨congrArg Prod.fst hE, congrArg (fun z => (L, mo_F D f mo ma (mo_ps M z.2))) hE⟩ (by decide) dX12_isMarket_99
                        · exact absurd c_76 (by decide)
                      · subst hb0
                        refine lv_iload_n hx hb dX12_isMarket_75 rfl (lv_at hl 1 rfl) ?_
                        refine lv_if_eq (tgt := 98) hx hb dX12_isMarket_76 (by decide) (fun c_76 => ?_) (fun c_76 => ?_)
                        · exact absurd c_76 (by decide)
                        · refine lv_aload_n hx hb dX12_isMarket_79 rfl (lv_at hl 0 rfl) ?_
                          refine mo_get X w hm hin 11 (by decide) (List.mem_of_getElem? (i := 2) rfl) (mo_ps_g11 ma M X0) dX12_isMarket_80 ?_
                          refine lv_aload_n hx hb dX12_isMarket_83 rfl (lv_at hl 0 rfl) ?_
                          refine mo_get X w hm hin 9 (by decide) (List.mem_of_getElem? (i := 3) rfl) (mo_ps_g9 ma M X0) dX12_isMarket_84 ?_
                          refine lv_icmp_ge (tgt := 98) hx hb dX12_isMarket_87 (by decide) (fun c_87 => ?_) (fun c_87 => ?_)
                          · have hge : ¬ X0.2.1 < t := fun q => absurd c_87 (by rw [ht]; exact nI_ge q (by omega))
                            have hE : ((1 : Int32), X0) = (ps_stalls M t 8 (ps_ropes M 5 (ps_start M (ps_S0 M s0)))) := by
                              have h := hT
                              simp only [ps_stalls] at h
                              rw [if_neg (by decide), if_neg hge] at h
                              exact h
                            refine lv_iload_n hx hb dX12_isMarket_98 rfl (lv_at hl 1 rfl) ?_
                            exact hend H locs (1) (L, mo_F D f mo ma (mo_ps M X0)) _ ls w ⟨congrArg Prod.fst hE, congrArg (fun z => (L, mo_F D f mo ma (mo_ps M z.2))) hE⟩ (by decide) dX12_isMarket_99
                          · refine lv_aload_n hx hb dX12_isMarket_90 rfl (lv_at hl 0 rfl) ?_
                            refine hg_viF (r := (ps_stall M X0).1) (As := []) (rest := []) X w (c_X12_takesStall l D b0 L f mo ma M hm t ht ht1 X0 hXt n r hX3 hn6 hX2 hr3) (cwV 0 hts gX12_isMarket_X12_takesStall rfl rfl rfl hdX12_takesStall ⟨Nat.le_of_ble_eq_true rfl, Nat.le_of_ble_eq_true rfl⟩) hm.1 (mo_at0 D f mo ma _) rfl rfl rfl hl.1 rfl (Nat.le_of_ble_eq_true rfl) dX12_isMarket_91 ⟨Nat.zero_le _, Nat.zero_le _⟩ (fun H locs w => ?_)
                            refine lv_istore_n (lv' := [(1, .int ((ps_stall M X0).1)), (0, .ref mo)]) hx hb dX12_isMarket_94 rfl hl (by decide) rfl (fun ls hl => ?_)
                            refine lv_goto (tgt := 75) hx hb dX12_isMarket_95 (by decide) ?_
                            exact ih (ps_stall M X0).1 (ps_stall M X0).2 (n + 1) r (ps_stall_le ht ht1 hXt) (by rcases ps_stall_ok (M := M) hX3 hn6 hX2 with q | ⟨q1, q2, q3, q4⟩; exact Or.inl q; exact Or.inr ⟨q1, q2, q3, q4, hr3, by omega⟩) (by have hlt : X0.2.1 < t := (nI_ltI (by omega) (by omega)).mp (hs_lt (by rw [ht] at c_87; exact c_87)); have h := hT; simp only [ps_stalls] at h; rw [if_neg (by decide), if_pos hlt] at h; exact h) H locs ls w (lv_sub hl [1, 0] rfl)
                  exact loop2 8 0 X0 0 0 hXt (Or.inl rfl) (by rw [hE1]) H locs ls w (lv_sub hl [0, 1] rfl)
                · exact absurd c_51 (by decide)
              | succ fu ih =>
                intro b X0 r hXt hI hT H locs ls w hl
                rcases hI with hb0 | ⟨hb0, hX2, hr3, hX3, hfu⟩
                · subst hb0
                  have hE : ((0 : Int32), X0) = (ps_ropes M 5 (ps_start M (ps_S0 M s0))) := hT
                  refine lv_iload_n hx hb dX12_isMarket_50 rfl (lv_at hl 1 rfl) ?_
                  refine lv_if_eq (tgt := 75) hx hb dX12_isMarket_51 (by decide) (fun c_51 => ?_) (fun c_51 => ?_)
                  · have hE1 := hE
                    have loop2 : ∀ (fu : Nat) (b : Int32) (X0 : ps_S) (n r : Nat), X0.2.1 ≤ t → (b = 0 ∨ (b = 1 ∧ X0.1 3 = nI n ∧ n ≤ 6 ∧ X0.1 2 = nI r ∧ r ≤ 3 ∧ 7 ≤ n + fu)) → ps_stalls M t fu (b, X0) = (ps_stalls M t 8 (ps_ropes M 5 (ps_start M (ps_S0 M s0)))) → ∀ (H : Heap) (locs : List Loc) (ls : Array Slot), hg_W D b0 L (mo_F D f mo ma (mo_ps M X0)) s.heap H locs → lv_has ls 2 [(0, .ref mo), (1, .int b)] → W p l e ({ frames := 4, cells := 0, slots := 0, locals := 91 }) s m args below meth c H locs 0 0 Q (F0 m 75 ls []) := by
                      intro fu
                      induction fu with
                      | zero =>
                        intro b X0 n r hXt hI hT H locs ls w hl
                        have hb0 : b = 0 := by
                          rcases hI with q | q
                          · exact q
                          · omega
                        subst hb0
                        have hE : ((0 : Int32), X0) = (ps_stalls M t 8 (ps_ropes M 5 (ps_start M (ps_S0 M s0)))) := hT
                        refine lv_iload_n hx hb dX12_isMarket_75 rfl (lv_at hl 1 rfl) ?_
                        refine lv_if_eq (tgt := 98) hx hb dX12_isMarket_76 (by decide) (fun c_76 => ?_) (fun c_76 => ?_)
                        · refine lv_iload_n hx hb dX12_isMarket_98 rfl (lv_at hl 1 rfl) ?_
                          exact hend H locs (0) (L, mo_F D f mo ma (mo_ps M X0)) _ ls w ⟨congrArg Prod.fst hE, congrArg (fun z => (L, mo_F D f mo ma (mo_ps M z.2))) hE⟩ (by decide) dX12_isMarket_99
                        · exact absurd c_76 (by decide)
                      | succ fu ih =>
                        intro b X0 n r hXt hI hT H locs ls w hl
                        rcases hI with hb0 | ⟨hb0, hX3, hn6, hX2, hr3, hfu⟩
                        · subst hb0
                          have hE : ((0 : Int32), X0) = (ps_stalls M t 8 (ps_ropes M 5 (ps_start M (ps_S0 M s0)))) := hT
                          refine lv_iload_n hx hb dX12_isMarket_75 rfl (lv_at hl 1 rfl) ?_
                          refine lv_if_eq (tgt := 98) hx hb dX12_isMarket_76 (by decide) (fun c_76 => ?_) (fun c_76 => ?_)
                          · refine lv_iload_n hx hb dX12_isMarket_98 rfl (lv_at hl 1 rfl) ?_
                            exact hend H locs (0) (L, mo_F D f mo ma (mo_ps M X0)) _ ls w ⟨congrArg Prod.fst hE, congrArg (fun z => (L, mo_F D f mo ma (mo_ps M z.2))) hE⟩ (by decide) dX12_isMarket_99
                          · exact absurd c_76 (by decide)
                        · subst hb0
                          refine lv_iload_n hx hb dX12_isMarket_75 rfl (lv_at hl 1 rfl) ?_
                          refine lv_if_eq (tgt := 98) hx hb dX12_isMarket_76 (by decide) (fun c_76 => ?_) (fun c_76 => ?_)
                          · exact absurd c_76 (by decide)
                          · refine lv_aload_n hx hb dX12_isMarket_79 rfl (lv_at hl 0 rfl) ?_
                            refine mo_get X w hm hin 11 (by decide) (List.mem_of_getElem? (i := 2) rfl) (mo_ps_g11 ma M X0) dX12_isMarket_80 ?_
                            refine lv_aload_n hx hb dX12_isMarket_83 rfl (lv_at hl 0 rfl) ?_
                            refine mo_get X w hm hin 9 (by decide) (List.mem_of_getElem? (i := 3) rfl) (mo_ps_g9 ma M X0) dX12_isMarket_84 ?_
                            refine lv_icmp_ge (tgt := 98) hx hb dX12_isMarket_87 (by decide) (fun c_87 => ?_) (fun c_87 => ?_)
                            · have hge : ¬ X0.2.1 < t := fun q => absurd c_87 (by rw [ht]; exact nI_ge q (by omega))
                              have hE : ((1 : Int32), X0) = (ps_stalls M t 8 (ps_ropes M 5 (ps_start M (ps_S0 M s0)))) := by
                                have h := hT
                                simp only [ps_stalls] at h
                                rw [if_neg (by decide), if_neg hge] at h
                                exact h
                              refine lv_iload_n hx hb dX12_isMarket_98 rfl (lv_at hl 1 rfl) ?_
                              exact hend H locs (1) (L, mo_F D f mo ma (mo_ps M X0)) _ ls w ⟨congrArg Prod.fst hE, congrArg (fun z => (L, mo_F D f mo ma (mo_ps M z.2))) hE⟩ (by decide) dX12_isMarket_99
                            · refine lv_aload_n hx hb dX12_isMarket_90 rfl (lv_at hl 0 rfl) ?_
                              refine hg_viF (r := (ps_stall M X0).1) (As := []) (rest := []) X w (c_X12_takesStall l D b0 L f mo ma M hm t ht ht1 X0 hXt n r hX3 hn6 hX2 hr3) (cwV 0 hts gX12_isMarket_X12_takesStall rfl rfl rfl hdX12_takesStall ⟨Nat.le_of_ble_eq_true rfl, Nat.le_of_ble_eq_true rfl⟩) hm.1 (mo_at0 D f mo ma _) rfl rfl rfl hl.1 rfl (Nat.le_of_ble_eq_true rfl) dX12_isMarket_91 ⟨Nat.zero_le _, Nat.zero_le _⟩ (fun H locs w => ?_)
                              refine lv_istore_n (lv' := [(1, .int ((ps_stall M X0).1)), (0, .ref mo)]) hx hb dX12_isMarket_94 rfl hl (by decide) rfl (fun ls hl => ?_)
                              refine lv_goto (tgt := 75) hx hb dX12_isMarket_95 (by decide) ?_
                              exact ih (ps_stall M X0).1 (ps_stall M X0).2 (n + 1) r (ps_stall_le ht ht1 hXt) (by rcases ps_stall_ok (M := M) hX3 hn6 hX2 with q | ⟨q1, q2, q3, q4⟩; exact Or.inl q; exact Or.inr ⟨q1, q2, q3, q4, hr3, by omega⟩) (by have hlt : X0.2.1 < t := (nI_ltI (by omega) (by omega)).mp (hs_lt (by rw [ht] at c_87; exact c_87)); have h := hT; simp only [ps_stalls] at h; rw [if_neg (by decide), if_pos hlt] at h; exact h) H locs ls w (lv_sub hl [1, 0] rfl)
                    exact loop2 8 0 X0 0 0 hXt (Or.inl rfl) (by rw [hE1]) H locs ls w (lv_sub hl [0, 1] rfl)
                  · exact absurd c_51 (by decide)
                · subst hb0
                  refine lv_iload_n hx hb dX12_isMarket_50 rfl (lv_at hl 1 rfl) ?_
                  refine lv_if_eq (tgt := 75) hx hb dX12_isMarket_51 (by decide) (fun c_51 => ?_) (fun c_51 => ?_)
                  · exact absurd c_51 (by decide)
                  · refine lv_aload_n hx hb dX12_isMarket_54 rfl (lv_at hl 0 rfl) ?_
                    refine lv_aload_n hx hb dX12_isMarket_55 rfl (lv_at hl 0 rfl) ?_
                    refine mo_get X w hm hin 11 (by decide) (List.mem_of_getElem? (i := 2) rfl) (mo_ps_g11 ma M X0) dX12_isMarket_56 ?_
                    refine hg_viF (r := (hs_byte M X0.2.1)) (As := [.int (nI X0.2.1)]) (rest := []) X w (c_X12_byteAt l D b0 L f mo ma (mo_ps M X0) hm t (mo_ps_9 ht _) ht1 X0.2.1 (by omega)) (cwV 1 hts gX12_isMarket_X12_byteAt rfl rfl rfl hdX12_byteAt ⟨Nat.le_of_ble_eq_true rfl, Nat.le_of_ble_eq_true rfl⟩) hm.1 (mo_at0 D f mo ma _) rfl rfl rfl hl.1 rfl (Nat.le_of_ble_eq_true rfl) dX12_isMarket_59 ⟨Nat.zero_le _, Nat.zero_le _⟩ (fun H locs w => ?_)
                    refine lv_bipush (v := 108) hx hb dX12_isMarket_62 (by decide) ?_
                    refine lv_icmp_ne (tgt := 75) hx hb dX12_isMarket_64 (by decide) (fun c_64 => ?_) (fun c_64 => ?_)
                    · have hE : ((1 : Int32), X0) = (ps_ropes M 5 (ps_start M (ps_S0 M s0))) := by
                        have h := hT
                        simp only [ps_ropes] at h
                        rw [if_neg (by decide), if_neg c_64] at h
                        exact h
                      have hE1 := hE
                      have loop2 : ∀ (fu : Nat) (b : Int32) (X0 : ps_S) (n r : Nat), X0.2.1 ≤ t → (b = 0 ∨ (b = 1 ∧ X0.1 3 = nI n ∧ n ≤ 6 ∧ X0.1 2 = nI r ∧ r ≤ 3 ∧ 7 ≤ n + fu)) → ps_stalls M t fu (b, X0) = (ps_stalls M t 8 (ps_ropes M 5 (ps_start M (ps_S0 M s0)))) → ∀ (H : Heap) (locs : List Loc) (ls : Array Slot), hg_W D b0 L (mo_F D f mo ma (mo_ps M X0)) s.heap H locs → lv_has ls 2 [(0, .ref mo), (1, .int b)] → W p l e ({ frames := 4, cells := 0, slots := 0, locals := 91 }) s m args below meth c H locs 0 0 Q (F0 m 75 ls []) := by
                        intro fu
                        induction fu with
                        | zero =>
                          intro b X0 n r hXt hI hT H locs ls w hl
                          have hb0 : b = 0 := by
                            rcases hI with q | q
                            · exact q
                            · omega
                          subst hb0
                          have hE : ((0 : Int32), X0) = (ps_stalls M t 8 (ps_ropes M 5 (ps_start M (ps_S0 M s0)))) := hT
                          refine lv_iload_n hx hb dX12_isMarket_75 rfl (lv_at hl 1 rfl) ?_
                          refine lv_if_eq (tgt := 98) hx hb dX12_isMarket_76 (by decide) (fun c_76 => ?_) (fun c_76 => ?_)
                          · refine lv_iload_n hx hb dX12_isMarket_98 rfl (lv_at hl 1 rfl) ?_
                            exact hend H locs (0) (L, mo_F D f mo ma (mo_ps M X0)) _ ls w ⟨congrArg Prod.fst hE, congrArg (fun z => (L, mo_F D f mo ma (mo_ps M z.2))) hE⟩ (by decide) dX12_isMarket_99
                          · exact absurd c_76 (by decide)
                        | succ fu ih =>
                          intro b X0 n r hXt hI hT H locs ls w hl
                          rcases hI with hb0 | ⟨hb0, hX3, hn6, hX2, hr3, hfu⟩
                          · subst hb0
                            have hE : ((0 : Int32), X0) = (ps_stalls M t 8 (ps_ropes M 5 (ps_start M (ps_S0 M s0)))) := hT
                            refine lv_iload_n hx hb dX12_isMarket_75 rfl (lv_at hl 1 rfl) ?_
                            refine lv_if_eq (tgt := 98) hx hb dX12_isMarket_76 (by decide) (fun c_76 => ?_) (fun c_76 => ?_)
                            · refine lv_iload_n hx hb dX12_isMarket_98 rfl (lv_at hl 1 rfl) ?_
                              exact hend H locs (0) (L, mo_F D f mo ma (mo_ps M X0)) _ ls w ⟨congrArg Prod.fst hE, congrArg (fun z => (L, mo_F D f mo ma (mo_ps M z.2))) hE⟩ (by decide) dX12_isMarket_99
                            · exact absurd c_76 (by decide)
                          · subst hb0
                            refine lv_iload_n hx hb dX12_isMarket_75 rfl (lv_at hl 1 rfl) ?_
                            refine lv_if_eq (tgt := 98) hx hb dX12_isMarket_76 (by decide) (fun c_76 => ?_) (fun c_76 => ?_)
                            · exact absurd c_76 (by decide)
                            · refine lv_aload_n hx hb dX12_isMarket_79 rfl (lv_at hl 0 rfl) ?_
                              refine mo_get X w hm hin 11 (by decide) (List.mem_of_getElem? (i := 2) rfl) (mo_ps_g11 ma M X0) dX12_isMarket_80 ?_
                              refine lv_aload_n hx hb dX12_isMarket_83 rfl (lv_at hl 0 rfl) ?_
                              refine mo_get X w hm hin 9 (by decide) (List.mem_of_getElem? (i := 3) rfl) (mo_ps_g9 ma M X0) dX12_isMarket_84 ?_
                              refine lv_icmp_ge (tgt := 98) hx hb dX12_isMarket_87 (by decide) (fun c_87 => ?_) (fun c_87 => ?_)
                              · have hge : ¬ X0.2.1 < t := fun q => absurd c_87 (by rw [ht]; exact nI_ge q (by omega))
                                have hE : ((1 : Int32), X0) = (ps_stalls M t 8 (ps_ropes M 5 (ps_start M (ps_S0 M s0)))) := by
                                  have h := hT
                                  simp only [ps_stalls] at h
                                  rw [if_neg (by decide), if_neg hge] at h
                                  exact h
                                refine lv_iload_n hx hb dX12_isMarket_98 rfl (lv_at hl 1 rfl) ?_
                                exact hend H locs (1) (L, mo_F D f mo ma (mo_ps M X0)) _ ls w ⟨congrArg Prod.fst hE, congrArg (fun z => (L, mo_F D f mo ma (mo_ps M z.2))) hE⟩ (by decide) dX12_isMarket_99
                              · refine lv_aload_n hx hb dX12_isMarket_90 rfl (lv_at hl 0 rfl) ?_
                                refine hg_viF (r := (ps_stall M X0).1) (As := []) (rest := []) X w (c_X12_takesStall l D b0 L f mo ma M hm t ht ht1 X0 hXt n r hX3 hn6 hX2 hr3) (cwV 0 hts gX12_isMarket_X12_takesStall rfl rfl rfl hdX12_takesStall ⟨Nat.le_of_ble_eq_true rfl, Nat.le_of_ble_eq_true rfl⟩) hm.1 (mo_at0 D f mo ma _) rfl rfl rfl hl.1 rfl (Nat.le_of_ble_eq_true rfl) dX12_isMarket_91 ⟨Nat.zero_le _, Nat.zero_le _⟩ (fun H locs w => ?_)
                                refine lv_istore_n (lv' := [(1, .int ((ps_stall M X0).1)), (0, .ref mo)]) hx hb dX12_isMarket_94 rfl hl (by decide) rfl (fun ls hl => ?_)
                                refine lv_goto (tgt := 75) hx hb dX12_isMarket_95 (by decide) ?_
                                exact ih (ps_stall M X0).1 (ps_stall M X0).2 (n + 1) r (ps_stall_le ht ht1 hXt) (by rcases ps_stall_ok (M := M) hX3 hn6 hX2 with q | ⟨q1, q2, q3, q4⟩; exact Or.inl q; exact Or.inr ⟨q1, q2, q3, q4, hr3, by omega⟩) (by have hlt : X0.2.1 < t := (nI_ltI (by omega) (by omega)).mp (hs_lt (by rw [ht] at c_87; exact c_87)); have h := hT; simp only [ps_stalls] at h; rw [if_neg (by decide), if_pos hlt] at h; exact h) H locs ls w (lv_sub hl [1, 0] rfl)
                      exact loop2 8 1 X0 0 r hXt (Or.inr ⟨rfl, hX3, by omega, hX2, hr3, by omega⟩) (by rw [hE1]) H locs ls w (lv_sub hl [0, 1] rfl)
                    · refine lv_aload_n hx hb dX12_isMarket_67 rfl (lv_at hl 0 rfl) ?_
                      refine hg_viF (r := (ps_rope M X0).1) (As := []) (rest := []) X w (c_X12_takesRope l D b0 L f mo ma M hm t ht ht1 X0 hXt r hX2 hr3) (cwV 0 hts gX12_isMarket_X12_takesRope rfl rfl rfl hdX12_takesRope ⟨Nat.le_of_ble_eq_true rfl, Nat.le_of_ble_eq_true rfl⟩) hm.1 (mo_at0 D f mo ma _) rfl rfl rfl hl.1 rfl (Nat.le_of_ble_eq_true rfl) dX12_isMarket_68 ⟨Nat.zero_le _, Nat.zero_le _⟩ (fun H locs w => ?_)
                      refine lv_istore_n (lv' := [(1, .int ((ps_rope M X0).1)), (0, .ref mo)]) hx hb dX12_isMarket_71 rfl hl (by decide) rfl (fun ls hl => ?_)
                      refine lv_goto (tgt := 50) hx hb dX12_isMarket_72 (by decide) ?_
                      exact ih (ps_rope M X0).1 (ps_rope M X0).2 (r + 1) (ps_rope_le ht ht1 hXt) (by rcases ps_rope_ok (M := M) hX2 hr3 hX3 with q | ⟨q1, q2, q3, q4⟩; exact Or.inl q; exact Or.inr ⟨q1, q2, q3, q4, by omega⟩) (by have h := hT; simp only [ps_ropes] at h; rw [if_neg (by decide), if_pos c_64] at h; exact h) H locs ls w (lv_sub hl [1, 0] rfl)
            exact loop1 5 0 (ps_rope M (ps_law M (ps_S0 M s0)).2).2 0 (ps_rope_le ht ht1 (ps_law_le ht ht1 (Nat.zero_le _))) (Or.inl rfl) (by rw [ps_start]; simp [c_34, c_41]) H locs ls w (lv_sub hl [1, 0] rfl)
          · refine lv_iconst (v := 1) hx hb dX12_isMarket_44 (by decide) ?_
            refine lv_goto (tgt := 49) hx hb dX12_isMarket_45 (by decide) ?_
            refine lv_istore_n (lv' := [(1, .int (1)), (0, .ref mo)]) hx hb dX12_isMarket_49 rfl hl (by decide) rfl (fun ls hl => ?_)
            have hR := ps_rope_ok (M := M) (S := (ps_law M (ps_S0 M s0)).2) (r := 0) ((ps_law_h M _ (by decide)).trans rfl) (by decide) ((ps_law_h M _ (by decide)).trans rfl)
            have loop1 : ∀ (fu : Nat) (b : Int32) (X0 : ps_S) (r : Nat), X0.2.1 ≤ t → (b = 0 ∨ (b = 1 ∧ X0.1 2 = nI r ∧ r ≤ 3 ∧ X0.1 3 = nI 0 ∧ 4 ≤ r + fu)) → ps_ropes M fu (b, X0) = (ps_ropes M 5 (ps_start M (ps_S0 M s0))) → ∀ (H : Heap) (locs : List Loc) (ls : Array Slot), hg_W D b0 L (mo_F D f mo ma (mo_ps M X0)) s.heap H locs → lv_has ls 2 [(0, .ref mo), (1, .int b)] → W p l e ({ frames := 4, cells := 0, slots := 0, locals := 91 }) s m args below meth c H locs 0 0 Q (F0 m 50 ls []) := by
              intro fu
              induction fu with
              | zero =>
                intro b X0 r hXt hI hT H locs ls w hl
                have hb0 : b = 0 := by
                  rcases hI with q | q
                  · exact q
                  · omega
                subst hb0
                have hE : ((0 : Int32), X0) = (ps_ropes M 5 (ps_start M (ps_S0 M s0))) := hT
                refine lv_iload_n hx hb dX12_isMarket_50 rfl (lv_at hl 1 rfl) ?_
                refine lv_if_eq (tgt := 75) hx hb dX12_isMarket_51 (by decide) (fun c_51 => ?_) (fun c_51 => ?_)
                · have hE1 := hE
                  have loop2 : ∀ (fu : Nat) (b : Int32) (X0 : ps_S) (n r : Nat), X0.2.1 ≤ t → (b = 0 ∨ (b = 1 ∧ X0.1 3 = nI n ∧ n ≤ 6 ∧ X0.1 2 = nI r ∧ r ≤ 3 ∧ 7 ≤ n + fu)) → ps_stalls M t fu (b, X0) = (ps_stalls M t 8 (ps_ropes M 5 (ps_start M (ps_S0 M s0)))) → ∀ (H : Heap) (locs : List Loc) (ls : Array Slot), hg_W D b0 L (mo_F D f mo ma (mo_ps M X0)) s.heap H locs → lv_has ls 2 [(0, .ref mo), (1, .int b)] → W p l e ({ frames := 4, cells := 0, slots := 0, locals := 91 }) s m args below meth c H locs 0 0 Q (F0 m 75 ls []) := by
                    intro fu
                    induction fu with
                    | zero =>
                      intro b X0 n r hXt hI hT H locs ls w hl
                      have hb0 : b = 0 := by
                        rcases hI with q | q
                        · exact q
                        · omega
                      subst hb0
                      have hE : ((0 : Int32), X0) = (ps_stalls M t 8 (ps_ropes M 5 (ps_start M (ps_S0 M s0)))) := hT
                      refine lv_iload_n hx hb dX12_isMarket_75 rfl (lv_at hl 1 rfl) ?_
                      refine lv_if_eq (tgt := 98) hx hb dX12_isMarket_76 (by decide) (fun c_76 => ?_) (fun c_76 => ?_)
                      · refine lv_iload_n hx hb dX12_isMarket_98 rfl (lv_at hl 1 rfl) ?_
                        exact hend H locs (0) (L, mo_F D f mo ma (mo_ps M X0)) _ ls w ⟨congrArg Prod.fst hE, congrArg (fun z => (L, mo_F D f mo ma (mo_ps M z.2))) hE⟩ (by decide) dX12_isMarket_99
                      · exact absurd c_76 (by decide)
                    | succ fu ih =>
                      intro b X0 n r hXt hI hT H locs ls w hl
                      rcases hI with hb0 | ⟨hb0, hX3, hn6, hX2, hr3, hfu⟩
                      · subst hb0
                        have hE : ((0 : Int32), X0) = (ps_stalls M t 8 (ps_ropes M 5 (ps_start M (ps_S0 M s0)))) := hT
                        refine lv_iload_n hx hb dX12_isMarket_75 rfl (lv_at hl 1 rfl) ?_
                        refine lv_if_eq (tgt := 98) hx hb dX12_isMarket_76 (by decide) (fun c_76 => ?_) (fun c_76 => ?_)
                        · refine lv_iload_n hx hb dX12_isMarket_98 rfl (lv_at hl 1 rfl) ?_
                          exact hend H locs (0) (L, mo_F D f mo ma (mo_ps M X0)) _ ls w ⟨congrArg Prod.fst hE, congrArg (fun z => (L, mo_F D f mo ma (mo_ps M z.2))) hE⟩ (by decide) dX12_isMarket_99
                        · exact absurd c_76 (by decide)
                      · subst hb0
                        refine lv_iload_n hx hb dX12_isMarket_75 rfl (lv_at hl 1 rfl) ?_
                        refine lv_if_eq (tgt := 98) hx hb dX12_isMarket_76 (by decide) (fun c_76 => ?_) (fun c_76 => ?_)
                        · exact absurd c_76 (by decide)
                        · refine lv_aload_n hx hb dX12_isMarket_79 rfl (lv_at hl 0 rfl) ?_
                          refine mo_get X w hm hin 11 (by decide) (List.mem_of_getElem? (i := 2) rfl) (mo_ps_g11 ma M X0) dX12_isMarket_80 ?_
                          refine lv_aload_n hx hb dX12_isMarket_83 rfl (lv_at hl 0 rfl) ?_
                          refine mo_get X w hm hin 9 (by decide) (List.mem_of_getElem? (i := 3) rfl) (mo_ps_g9 ma M X0) dX12_isMarket_84 ?_
                          refine lv_icmp_ge (tgt := 98) hx hb dX12_isMarket_87 (by decide) (fun c_87 => ?_) (fun c_87 => ?_)
                          · have hge : ¬ X0.2.1 < t := fun q => absurd c_87 (by rw [ht]; exact nI_ge q (by omega))
                            have hE : ((1 : Int32), X0) = (ps_stalls M t 8 (ps_ropes M 5 (ps_start M (ps_S0 M s0)))) := by
                              have h := hT
                              simp only [ps_stalls] at h
                              rw [if_neg (by decide), if_neg hge] at h
                              exact h
                            refine lv_iload_n hx hb dX12_isMarket_98 rfl (lv_at hl 1 rfl) ?_
                            exact hend H locs (1) (L, mo_F D f mo ma (mo_ps M X0)) _ ls w ⟨congrArg Prod.fst hE, congrArg (fun z => (L, mo_F D f mo ma (mo_ps M z.2))) hE⟩ (by decide) dX12_isMarket_99
                          · refine lv_aload_n hx hb dX12_isMarket_90 rfl (lv_at hl 0 rfl) ?_
                            refine hg_viF (r := (ps_stall M X0).1) (As := []) (rest := []) X w (c_X12_takesStall l D b0 L f mo ma M hm t ht ht1 X0 hXt n r hX3 hn6 hX2 hr3) (cwV 0 hts gX12_isMarket_X12_takesStall rfl rfl rfl hdX12_takesStall ⟨Nat.le_of_ble_eq_true rfl, Nat.le_of_ble_eq_true rfl⟩) hm.1 (mo_at0 D f mo ma _) rfl rfl rfl hl.1 rfl (Nat.le_of_ble_eq_true rfl) dX12_isMarket_91 ⟨Nat.zero_le _, Nat.zero_le _⟩ (fun H locs w => ?_)
                            refine lv_istore_n (lv' := [(1, .int ((ps_stall M X0).1)), (0, .ref mo)]) hx hb dX12_isMarket_94 rfl hl (by decide) rfl (fun ls hl => ?_)
                            refine lv_goto (tgt := 75) hx hb dX12_isMarket_95 (by decide) ?_
                            exact ih (ps_stall M X0).1 (ps_stall M X0).2 (n + 1) r (ps_stall_le ht ht1 hXt) (by rcases ps_stall_ok (M := M) hX3 hn6 hX2 with q | ⟨q1, q2, q3, q4⟩; exact Or.inl q; exact Or.inr ⟨q1, q2, q3, q4, hr3, by omega⟩) (by have hlt : X0.2.1 < t := (nI_ltI (by omega) (by omega)).mp (hs_lt (by rw [ht] at c_87; exact c_87)); have h := hT; simp only [ps_stalls] at h; rw [if_neg (by decide), if_pos hlt] at h; exact h) H locs ls w (lv_sub hl [1, 0] rfl)
                  exact loop2 8 0 X0 0 0 hXt (Or.inl rfl) (by rw [hE1]) H locs ls w (lv_sub hl [0, 1] rfl)
                · exact absurd c_51 (by decide)
              | succ fu ih =>
                intro b X0 r hXt hI hT H locs ls w hl
                rcases hI with hb0 | ⟨hb0, hX2, hr3, hX3, hfu⟩
                · subst hb0
                  have hE : ((0 : Int32), X0) = (ps_ropes M 5 (ps_start M (ps_S0 M s0))) := hT
                  refine lv_iload_n hx hb dX12_isMarket_50 rfl (lv_at hl 1 rfl) ?_
                  refine lv_if_eq (tgt := 75) hx hb dX12_isMarket_51 (by decide) (fun c_51 => ?_) (fun c_51 => ?_)
                  · have hE1 := hE
                    have loop2 : ∀ (fu : Nat) (b : Int32) (X0 : ps_S) (n r : Nat), X0.2.1 ≤ t → (b = 0 ∨ (b = 1 ∧ X0.1 3 = nI n ∧ n ≤ 6 ∧ X0.1 2 = nI r ∧ r ≤ 3 ∧ 7 ≤ n + fu)) → ps_stalls M t fu (b, X0) = (ps_stalls M t 8 (ps_ropes M 5 (ps_start M (ps_S0 M s0)))) → ∀ (H : Heap) (locs : List Loc) (ls : Array Slot), hg_W D b0 L (mo_F D f mo ma (mo_ps M X0)) s.heap H locs → lv_has ls 2 [(0, .ref mo), (1, .int b)] → W p l e ({ frames := 4, cells := 0, slots := 0, locals := 91 }) s m args below meth c H locs 0 0 Q (F0 m 75 ls []) := by
                      intro fu
                      induction fu with
                      | zero =>
                        intro b X0 n r hXt hI hT H locs ls w hl
                        have hb0 : b = 0 := by
                          rcases hI with q | q
                          · exact q
                          · omega
                        subst hb0
                        have hE : ((0 : Int32), X0) = (ps_stalls M t 8 (ps_ropes M 5 (ps_start M (ps_S0 M s0)))) := hT
                        refine lv_iload_n hx hb dX12_isMarket_75 rfl (lv_at hl 1 rfl) ?_
                        refine lv_if_eq (tgt := 98) hx hb dX12_isMarket_76 (by decide) (fun c_76 => ?_) (fun c_76 => ?_)
                        · refine lv_iload_n hx hb dX12_isMarket_98 rfl (lv_at hl 1 rfl) ?_
                          exact hend H locs (0) (L, mo_F D f mo ma (mo_ps M X0)) _ ls w ⟨congrArg Prod.fst hE, congrArg (fun z => (L, mo_F D f mo ma (mo_ps M z.2))) hE⟩ (by decide) dX12_isMarket_99
                        · exact absurd c_76 (by decide)
                      | succ fu ih =>
                        intro b X0 n r hXt hI hT H locs ls w hl
                        rcases hI with hb0 | ⟨hb0, hX3, hn6, hX2, hr3, hfu⟩
                        · subst hb0
                          have hE : ((0 : Int32), X0) = (ps_stalls M t 8 (ps_ropes M 5 (ps_start M (ps_S0 M s0)))) := hT
                          refine lv_iload_n hx hb dX12_isMarket_75 rfl (lv_at hl 1 rfl) ?_
                          refine lv_if_eq (tgt := 98) hx hb dX12_isMarket_76 (by decide) (fun c_76 => ?_) (fun c_76 => ?_)
                          · refine lv_iload_n hx hb dX12_isMarket_98 rfl (lv_at hl 1 rfl) ?_
                            exact hend H locs (0) (L, mo_F D f mo ma (mo_ps M X0)) _ ls w ⟨congrArg Prod.fst hE, congrArg (fun z => (L, mo_F D f mo ma (mo_ps M z.2))) hE⟩ (by decide) dX12_isMarket_99
                          · exact absurd c_76 (by decide)
                        · subst hb0
                          refine lv_iload_n hx hb dX12_isMarket_75 rfl (lv_at hl 1 rfl) ?_
                          refine lv_if_eq (tgt := 98) hx hb dX12_isMarket_76 (by decide) (fun c_76 => ?_) (fun c_76 => ?_)
                          · exact absurd c_76 (by decide)
                          · refine lv_aload_n hx hb dX12_isMarket_79 rfl (lv_at hl 0 rfl) ?_
                            refine mo_get X w hm hin 11 (by decide) (List.mem_of_getElem? (i := 2) rfl) (mo_ps_g11 ma M X0) dX12_isMarket_80 ?_
                            refine lv_aload_n hx hb dX12_isMarket_83 rfl (lv_at hl 0 rfl) ?_
                            refine mo_get X w hm hin 9 (by decide) (List.mem_of_getElem? (i := 3) rfl) (mo_ps_g9 ma M X0) dX12_isMarket_84 ?_
                            refine lv_icmp_ge (tgt := 98) hx hb dX12_isMarket_87 (by decide) (fun c_87 => ?_) (fun c_87 => ?_)
                            · have hge : ¬ X0.2.1 < t := fun q => absurd c_87 (by rw [ht]; exact nI_ge q (by omega))
                              have hE : ((1 : Int32), X0) = (ps_stalls M t 8 (ps_ropes M 5 (ps_start M (ps_S0 M s0)))) := by
                                have h := hT
                                simp only [ps_stalls] at h
                                rw [if_neg (by decide), if_neg hge] at h
                                exact h
                              refine lv_iload_n hx hb dX12_isMarket_98 rfl (lv_at hl 1 rfl) ?_
                              exact hend H locs (1) (L, mo_F D f mo ma (mo_ps M X0)) _ ls w ⟨congrArg Prod.fst hE, congrArg (fun z => (L, mo_F D f mo ma (mo_ps M z.2))) hE⟩ (by decide) dX12_isMarket_99
                            · refine lv_aload_n hx hb dX12_isMarket_90 rfl (lv_at hl 0 rfl) ?_
                              refine hg_viF (r := (ps_stall M X0).1) (As := []) (rest := []) X w (c_X12_takesStall l D b0 L f mo ma M hm t ht ht1 X0 hXt n r hX3 hn6 hX2 hr3) (cwV 0 hts gX12_isMarket_X12_takesStall rfl rfl rfl hdX12_takesStall ⟨Nat.le_of_ble_eq_true rfl, Nat.le_of_ble_eq_true rfl⟩) hm.1 (mo_at0 D f mo ma _) rfl rfl rfl hl.1 rfl (Nat.le_of_ble_eq_true rfl) dX12_isMarket_91 ⟨Nat.zero_le _, Nat.zero_le _⟩ (fun H locs w => ?_)
                              refine lv_istore_n (lv' := [(1, .int ((ps_stall M X0).1)), (0, .ref mo)]) hx hb dX12_isMarket_94 rfl hl (by decide) rfl (fun ls hl => ?_)
                              refine lv_goto (tgt := 75) hx hb dX12_isMarket_95 (by decide) ?_
                              exact ih (ps_stall M X0).1 (ps_stall M X0).2 (n + 1) r (ps_stall_le ht ht1 hXt) (by rcases ps_stall_ok (M := M) hX3 hn6 hX2 with q | ⟨q1, q2, q3, q4⟩; exact Or.inl q; exact Or.inr ⟨q1, q2, q3, q4, hr3, by omega⟩) (by have hlt : X0.2.1 < t := (nI_ltI (by omega) (by omega)).mp (hs_lt (by rw [ht] at c_87; exact c_87)); have h := hT; simp only [ps_stalls] at h; rw [if_neg (by decide), if_pos hlt] at h; exact h) H locs ls w (lv_sub hl [1, 0] rfl)
                    exact loop2 8 0 X0 0 0 hXt (Or.inl rfl) (by rw [hE1]) H locs ls w (lv_sub hl [0, 1] rfl)
                  · exact absurd c_51 (by decide)
                · subst hb0
                  refine lv_iload_n hx hb dX12_isMarket_50 rfl (lv_at hl 1 rfl) ?_
                  refine lv_if_eq (tgt := 75) hx hb dX12_isMarket_51 (by decide) (fun c_51 => ?_) (fun c_51 => ?_)
                  · exact absurd c_51 (by decide)
                  · refine lv_aload_n hx hb dX12_isMarket_54 rfl (lv_at hl 0 rfl) ?_
                    refine lv_aload_n hx hb dX12_isMarket_55 rfl (lv_at hl 0 rfl) ?_
                    refine mo_get X w hm hin 11 (by decide) (List.mem_of_getElem? (i := 2) rfl) (mo_ps_g11 ma M X0) dX12_isMarket_56 ?_
                    refine hg_viF (r := (hs_byte M X0.2.1)) (As := [.int (nI X0.2.1)]) (rest := []) X w (c_X12_byteAt l D b0 L f mo ma (mo_ps M X0) hm t (mo_ps_9 ht _) ht1 X0.2.1 (by omega)) (cwV 1 hts gX12_isMarket_X12_byteAt rfl rfl rfl hdX12_byteAt ⟨Nat.le_of_ble_eq_true rfl, Nat.le_of_ble_eq_true rfl⟩) hm.1 (mo_at0 D f mo ma _) rfl rfl rfl hl.1 rfl (Nat.le_of_ble_eq_true rfl) dX12_isMarket_59 ⟨Nat.zero_le _, Nat.zero_le _⟩ (fun H locs w => ?_)
                    refine lv_bipush (v := 108) hx hb dX12_isMarket_62 (by decide) ?_
                    refine lv_icmp_ne (tgt := 75) hx hb dX12_isMarket_64 (by decide) (fun c_64 => ?_) (fun c_64 => ?_)
                    · have hE : ((1 : Int32), X0) = (ps_ropes M 5 (ps_start M (ps_S0 M s0))) := by
                        have h := hT
                        simp only [ps_ropes] at h
                        rw [if_neg (by decide), if_neg c_64] at h
                        exact h
                      have hE1 := hE
                      have loop2 : ∀ (fu : Nat) (b : Int32) (X0 : ps_S) (n r : Nat), X0.2.1 ≤ t → (b = 0 ∨ (b = 1 ∧ X0.1 3 = nI n ∧ n ≤ 6 ∧ X0.1 2 = nI r ∧ r ≤ 3 ∧ 7 ≤ n + fu)) → ps_stalls M t fu (b, X0) = (ps_stalls M t 8 (ps_ropes M 5 (ps_start M (ps_S0 M s0)))) → ∀ (H : Heap) (locs : List Loc) (ls : Array Slot), hg_W D b0 L (mo_F D f mo ma (mo_ps M X0)) s.heap H locs → lv_has ls 2 [(0, .ref mo), (1, .int b)] → W p l e ({ frames := 4, cells := 0, slots := 0, locals := 91 }) s m args below meth c H locs 0 0 Q (F0 m 75 ls []) := by
                        intro fu
                        induction fu with
                        | zero =>
                          intro b X0 n r hXt hI hT H locs ls w hl
                          have hb0 : b = 0 := by
                            rcases hI with q | q
                            · exact q
                            · omega
                          subst hb0
                          have hE : ((0 : Int32), X0) = (ps_stalls M t 8 (ps_ropes M 5 (ps_start M (ps_S0 M s0)))) := hT
                          refine lv_iload_n hx hb dX12_isMarket_75 rfl (lv_at hl 1 rfl) ?_
                          refine lv_if_eq (tgt := 98) hx hb dX12_isMarket_76 (by decide) (fun c_76 => ?_) (fun c_76 => ?_)
                          · refine lv_iload_n hx hb dX12_isMarket_98 rfl (lv_at hl 1 rfl) ?_
                            exact hend H locs (0) (L, mo_F D f mo ma (mo_ps M X0)) _ ls w ⟨congrArg Prod.fst hE, congrArg (fun z => (L, mo_F D f mo ma (mo_ps M z.2))) hE⟩ (by decide) dX12_isMarket_99
                          · exact absurd c_76 (by decide)
                        | succ fu ih =>
                          intro b X0 n r hXt hI hT H locs ls w hl
                          rcases hI with hb0 | ⟨hb0, hX3, hn6, hX2, hr3, hfu⟩
                          · subst hb0
                            have hE : ((0 : Int32), X0) = (ps_stalls M t 8 (ps_ropes M 5 (ps_start M (ps_S0 M s0)))) := hT
                            refine lv_iload_n hx hb dX12_isMarket_75 rfl (lv_at hl 1 rfl) ?_
                            refine lv_if_eq (tgt := 98) hx hb dX12_isMarket_76 (by decide) (fun c_76 => ?_) (fun c_76 => ?_)
                            · refine lv_iload_n hx hb dX12_isMarket_98 rfl (lv_at hl 1 rfl) ?_
                              exact hend H locs (0) (L, mo_F D f mo ma (mo_ps M X0)) _ ls w ⟨congrArg Prod.fst hE, congrArg (fun z => (L, mo_F D f mo ma (mo_ps M z.2))) hE⟩ (by decide) dX12_isMarket_99
                            · exact absurd c_76 (by decide)
                          · subst hb0
                            refine lv_iload_n hx hb dX12_isMarket_75 rfl (lv_at hl 1 rfl) ?_
                            refine lv_if_eq (tgt := 98) hx hb dX12_isMarket_76 (by decide) (fun c_76 => ?_) (fun c_76 => ?_)
                            · exact absurd c_76 (by decide)
                            · refine lv_aload_n hx hb dX12_isMarket_79 rfl (lv_at hl 0 rfl) ?_
                              refine mo_get X w hm hin 11 (by decide) (List.mem_of_getElem? (i := 2) rfl) (mo_ps_g11 ma M X0) dX12_isMarket_80 ?_
                              refine lv_aload_n hx hb dX12_isMarket_83 rfl (lv_at hl 0 rfl) ?_
                              refine mo_get X w hm hin 9 (by decide) (List.mem_of_getElem? (i := 3) rfl) (mo_ps_g9 ma M X0) dX12_isMarket_84 ?_
                              refine lv_icmp_ge (tgt := 98) hx hb dX12_isMarket_87 (by decide) (fun c_87 => ?_) (fun c_87 => ?_)
                              · have hge : ¬ X0.2.1 < t := fun q => absurd c_87 (by rw [ht]; exact nI_ge q (by omega))
                                have hE : ((1 : Int32), X0) = (ps_stalls M t 8 (ps_ropes M 5 (ps_start M (ps_S0 M s0)))) := by
                                  have h := hT
                                  simp only [ps_stalls] at h
                                  rw [if_neg (by decide), if_neg hge] at h
                                  exact h
                                refine lv_iload_n hx hb dX12_isMarket_98 rfl (lv_at hl 1 rfl) ?_
                                exact hend H locs (1) (L, mo_F D f mo ma (mo_ps M X0)) _ ls w ⟨congrArg Prod.fst hE, congrArg (fun z => (L, mo_F D f mo ma (mo_ps M z.2))) hE⟩ (by decide) dX12_isMarket_99
                              · refine lv_aload_n hx hb dX12_isMarket_90 rfl (lv_at hl 0 rfl) ?_
                                refine hg_viF (r := (ps_stall M X0).1) (As := []) (rest := []) X w (c_X12_takesStall l D b0 L f mo ma M hm t ht ht1 X0 hXt n r hX3 hn6 hX2 hr3) (cwV 0 hts gX12_isMarket_X12_takesStall rfl rfl rfl hdX12_takesStall ⟨Nat.le_of_ble_eq_true rfl, Nat.le_of_ble_eq_true rfl⟩) hm.1 (mo_at0 D f mo ma _) rfl rfl rfl hl.1 rfl (Nat.le_of_ble_eq_true rfl) dX12_isMarket_91 ⟨Nat.zero_le _, Nat.zero_le _⟩ (fun H locs w => ?_)
                                refine lv_istore_n (lv' := [(1, .int ((ps_stall M X0).1)), (0, .ref mo)]) hx hb dX12_isMarket_94 rfl hl (by decide) rfl (fun ls hl => ?_)
                                refine lv_goto (tgt := 75) hx hb dX12_isMarket_95 (by decide) ?_
                                exact ih (ps_stall M X0).1 (ps_stall M X0).2 (n + 1) r (ps_stall_le ht ht1 hXt) (by rcases ps_stall_ok (M := M) hX3 hn6 hX2 with q | ⟨q1, q2, q3, q4⟩; exact Or.inl q; exact Or.inr ⟨q1, q2, q3, q4, hr3, by omega⟩) (by have hlt : X0.2.1 < t := (nI_ltI (by omega) (by omega)).mp (hs_lt (by rw [ht] at c_87; exact c_87)); have h := hT; simp only [ps_stalls] at h; rw [if_neg (by decide), if_pos hlt] at h; exact h) H locs ls w (lv_sub hl [1, 0] rfl)
                      exact loop2 8 1 X0 0 r hXt (Or.inr ⟨rfl, hX3, by omega, hX2, hr3, by omega⟩) (by rw [hE1]) H locs ls w (lv_sub hl [0, 1] rfl)
                    · refine lv_aload_n hx hb dX12_isMarket_67 rfl (lv_at hl 0 rfl) ?_
                      refine hg_viF (r := (ps_rope M X0).1) (As := []) (rest := []) X w (c_X12_takesRope l D b0 L f mo ma M hm t ht ht1 X0 hXt r hX2 hr3) (cwV 0 hts gX12_isMarket_X12_takesRope rfl rfl rfl hdX12_takesRope ⟨Nat.le_of_ble_eq_true rfl, Nat.le_of_ble_eq_true rfl⟩) hm.1 (mo_at0 D f mo ma _) rfl rfl rfl hl.1 rfl (Nat.le_of_ble_eq_true rfl) dX12_isMarket_68 ⟨Nat.zero_le _, Nat.zero_le _⟩ (fun H locs w => ?_)
                      refine lv_istore_n (lv' := [(1, .int ((ps_rope M X0).1)), (0, .ref mo)]) hx hb dX12_isMarket_71 rfl hl (by decide) rfl (fun ls hl => ?_)
                      refine lv_goto (tgt := 50) hx hb dX12_isMarket_72 (by decide) ?_
                      exact ih (ps_rope M X0).1 (ps_rope M X0).2 (r + 1) (ps_rope_le ht ht1 hXt) (by rcases ps_rope_ok (M := M) hX2 hr3 hX3 with q | ⟨q1, q2, q3, q4⟩; exact Or.inl q; exact Or.inr ⟨q1, q2, q3, q4, by omega⟩) (by have h := hT; simp only [ps_ropes] at h; rw [if_neg (by decide), if_pos c_64] at h; exact h) H locs ls w (lv_sub hl [1, 0] rfl)
            exact loop1 5 1 (ps_rope M (ps_law M (ps_S0 M s0)).2).2 1 (ps_rope_le ht ht1 (ps_law_le ht ht1 (Nat.zero_le _))) (by rcases hR with q | ⟨q1, q2, q3, q4⟩; exact absurd q c_41; exact Or.inr ⟨rfl, q2, q3, q4, by omega⟩) (by rw [ps_start]; simp [c_34, c_41]) H locs ls w (lv_sub hl [1, 0] rfl)
      · have hkl : k < 50 := by
          rcases Nat.lt_or_ge k 50 with q | q
          · exact q
          · exact absurd (nI_le (a := 50) (b := k) q (by omega)) c_5
        refine lv_aload_n hx hb dX12_isMarket_8 rfl (lv_at hl 0 rfl) ?_
        refine mo_get X w hm hin 0 (by decide) (List.mem_of_getElem? (i := 1) rfl) rfl dX12_isMarket_9 ?_
        refine lv_sipush (v := 150) hx hb dX12_isMarket_12 (by decide) ?_
        refine lv_iload_n hx hb dX12_isMarket_15 rfl (lv_at hl 1 rfl) ?_
        refine lv_iadd hx hb dX12_isMarket_16 ?_
        refine lv_iconst (v := 0) hx hb dX12_isMarket_17 (by decide) ?_
        refine mo_iast X w hm 0 (by decide) (by decide) (150 + k) (hs_addI rfl rfl) (by show _ < 1400; omega) dX12_isMarket_18 (fun H locs w => ?_)
        refine lv_iinc (v := nI k + 1) (lv' := [(1, .int (nI k + 1)), (0, .ref mo)]) hx hb dX12_isMarket_19 hl (k := 1) rfl rfl (by decide) rfl (fun ls hl => ?_)
        refine lv_goto (tgt := 2) hx hb dX12_isMarket_22 (by decide) ?_
        have hl := hs_lv hl (k := 0) rfl (nI_1 k)
        exact ih0 (k + 1) (by omega) (by omega) H locs ls (by rw [hs_up_up, hs_z150_s] at w; exact w) (lv_sub hl [1, 0] rfl)
  exact loop0 51 0 (by omega) (by omega) H locs ls (by rw [hs_z150_0, hs_up_id]; exact w) (lv_sub hl [1, 0] rfl)
