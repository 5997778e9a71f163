set_option maxRecDepth 100000 in
set_option maxHeartbeats 4000000 in
theorem c_X11_isOfKind (l : Launch) (D : va_G) (b0 : Nat) (L : List Nat) (f : Nat → va_E) (oa : Nat → Nat) (C : Nat → Nat → Int32) (im : Nat → Option Nat) (mk : Nat) (ad : Nat → Nat) (n : Nat) (g : Nat → Int32) (hm : mk_ok L mk ad n) (hs : mk_sr g n) (ho : ob_ok L oa mk ad n) (i : Nat) (hi : i < n) (kind : Int32) : hg_Fi l yX11_isOfKind wsX11_isOfKind ({ frames := 0, cells := 0, slots := 0, locals := 0 }) D b0 L (ob_W D f oa C mk im mk ad n g) [.ref (ad (2 + i)), .int (kind)] (hs_isof (g (8 + i)) kind) (ob_W D f oa C mk im mk ad n g) := by
  refine hg_in_i (cc := cX11_isOfKind) (nL := 2) (by decide) rfl (Nat.le_of_ble_eq_true rfl) (fun p e s m args below meth c R Q X hR hend H locs ls w hl => ?_)
  subst hR
  obtain ⟨hx, hb, hml, hown, hts⟩ := id X.1
  have hl : lv_has ls 2 [(0, .ref (ad (2 + i))), (1, .int (kind))] := hl
  have hk0 := hs.2.2.1 i hi
  rcases hk0 with hk | hk | hk | hk | hk
  · refine lv_iload_n hx hb dX11_isOfKind_0 rfl (lv_at hl 1 rfl) ?_
    by_cases s_1_0 : kind = 0
    · refine lv_tableIn (off := 39) (tgt := 40) hx hb dX11_isOfKind_1 (by rw [s_1_0]; decide) (by rw [s_1_0]; decide) (by rw [s_1_0]; decide) (by decide) ?_
      refine lv_iconst (v := 1) hx hb dX11_isOfKind_40 (by decide) ?_
      exact hend H locs (1) (L, ob_W D f oa C mk im mk ad n g) _ ls w ⟨(by simp [hs_isof, hk, s_1_0]), rfl⟩ (by decide) dX11_isOfKind_41
    by_cases s_1_1 : kind = 1
    · refine lv_tableIn (off := 41) (tgt := 42) hx hb dX11_isOfKind_1 (by rw [s_1_1]; decide) (by rw [s_1_1]; decide) (by rw [s_1_1]; decide) (by decide) ?_
      refine lv_aload_n hx hb dX11_isOfKind_42 rfl (lv_at hl 0 rfl) ?_
      refine va_instY (C := "HungStalls$Table") hx hb hown (hts _ (List.mem_of_getElem? (i := 1) rfl)) (X.2.1.2.2.1 ("HungStalls$Table", "HungStalls$Table") (List.mem_of_getElem? (i := 6) rfl)) (hg_recv X w (hm.2.1 (2 + i) (by omega)).1 ((mk_atS hm hi).trans (by rw [hk]; first | done | rfl)) rfl rfl) dX11_isOfKind_43 ?_
      exact hend H locs (1) (L, ob_W D f oa C mk im mk ad n g) _ ls w ⟨(by simp [hs_isof, hk, s_1_0, s_1_1]), rfl⟩ (by decide) dX11_isOfKind_46
    by_cases s_1_2 : kind = 2
    · refine lv_tableIn (off := 46) (tgt := 47) hx hb dX11_isOfKind_1 (by rw [s_1_2]; decide) (by rw [s_1_2]; decide) (by rw [s_1_2]; decide) (by decide) ?_
      refine lv_aload_n hx hb dX11_isOfKind_47 rfl (lv_at hl 0 rfl) ?_
      refine va_instNo (C := "HungStalls$Table") hx hb hown (hts _ (List.mem_of_getElem? (i := 2) rfl)) (X.2.1.2.2.2.1 ("HungStalls$Table", "HungStalls$Jeweller") (List.mem_of_getElem? (i := 5) rfl)) (hg_recv X w (hm.2.1 (2 + i) (by omega)).1 ((mk_atS hm hi).trans (by rw [hk]; first | done | rfl)) rfl rfl) dX11_isOfKind_48 ?_
      exact hend H locs (0) (L, ob_W D f oa C mk im mk ad n g) _ ls w ⟨(by simp [hs_isof, hk, s_1_0, s_1_1, s_1_2]), rfl⟩ (by decide) dX11_isOfKind_51
    by_cases s_1_3 : kind = 3
    · refine lv_tableIn (off := 51) (tgt := 52) hx hb dX11_isOfKind_1 (by rw [s_1_3]; decide) (by rw [s_1_3]; decide) (by rw [s_1_3]; decide) (by decide) ?_
      refine lv_aload_n hx hb dX11_isOfKind_52 rfl (lv_at hl 0 rfl) ?_
      refine va_instNo (C := "HungStalls$Table") hx hb hown (hts _ (List.mem_of_getElem? (i := 3) rfl)) (X.2.1.2.2.2.1 ("HungStalls$Table", "HungStalls$Butcher") (List.mem_of_getElem? (i := 9) rfl)) (hg_recv X w (hm.2.1 (2 + i) (by omega)).1 ((mk_atS hm hi).trans (by rw [hk]; first | done | rfl)) rfl rfl) dX11_isOfKind_53 ?_
      exact hend H locs (0) (L, ob_W D f oa C mk im mk ad n g) _ ls w ⟨(by simp [hs_isof, hk, s_1_0, s_1_1, s_1_2, s_1_3]), rfl⟩ (by decide) dX11_isOfKind_56
    by_cases s_1_4 : kind = 4
    · refine lv_tableIn (off := 56) (tgt := 57) hx hb dX11_isOfKind_1 (by rw [s_1_4]; decide) (by rw [s_1_4]; decide) (by rw [s_1_4]; decide) (by decide) ?_
      refine lv_aload_n hx hb dX11_isOfKind_57 rfl (lv_at hl 0 rfl) ?_
      refine va_instNo (C := "HungStalls$Table") hx hb hown (hts _ (List.mem_of_getElem? (i := 4) rfl)) (X.2.1.2.2.2.1 ("HungStalls$Table", "HungStalls$Notary") (List.mem_of_getElem? (i := 12) rfl)) (hg_recv X w (hm.2.1 (2 + i) (by omega)).1 ((mk_atS hm hi).trans (by rw [hk]; first | done | rfl)) rfl rfl) dX11_isOfKind_58 ?_
      exact hend H locs (0) (L, ob_W D f oa C mk im mk ad n g) _ ls w ⟨(by simp [hs_isof, hk, s_1_0, s_1_1, s_1_2, s_1_3, s_1_4]), rfl⟩ (by decide) dX11_isOfKind_61
    by_cases s_1_5 : kind = 5
    · refine lv_tableIn (off := 61) (tgt := 62) hx hb dX11_isOfKind_1 (by rw [s_1_5]; decide) (by rw [s_1_5]; decide) (by rw [s_1_5]; decide) (by decide) ?_
      refine lv_aload_n hx hb dX11_isOfKind_62 rfl (lv_at hl 0 rfl) ?_
      refine va_instNo (C := "HungStalls$Table") hx hb hown (hts _ (List.mem_of_getElem? (i := 5) rfl)) (X.2.1.2.2.2.1 ("HungStalls$Table", "HungStalls$Vulture") (List.mem_of_getElem? (i := 16) rfl)) (hg_recv X w (hm.2.1 (2 + i) (by omega)).1 ((mk_atS hm hi).trans (by rw [hk]; first | done | rfl)) rfl rfl) dX11_isOfKind_63 ?_
      exact hend H locs (0) (L, ob_W D f oa C mk im mk ad n g) _ ls w ⟨(by simp [hs_isof, hk, s_1_0, s_1_1, s_1_2, s_1_3, s_1_4, s_1_5]), rfl⟩ (by decide) dX11_isOfKind_66
    refine lv_tableOut (tgt := 67) hx hb dX11_isOfKind_1 (by have t0 := lv_neT s_1_0 (a := 0) (by decide); have t1 := lv_neT s_1_1 (a := 1) (by decide); have t2 := lv_neT s_1_2 (a := 2) (by decide); have t3 := lv_neT s_1_3 (a := 3) (by decide); have t4 := lv_neT s_1_4 (a := 4) (by decide); have t5 := lv_neT s_1_5 (a := 5) (by decide); omega) (by decide) ?_
    refine lv_iconst (v := 0) hx hb dX11_isOfKind_67 (by decide) ?_
    exact hend H locs (0) (L, ob_W D f oa C mk im mk ad n g) _ ls w ⟨(by simp [hs_isof, hk, s_1_0, s_1_1, s_1_2, s_1_3, s_1_4, s_1_5]), rfl⟩ (by decide) dX11_isOfKind_68
  · refine lv_iload_n hx hb dX11_isOfKind_0 rfl (lv_at hl 1 rfl) ?_
    by_cases s_1_0 : kind = 0
    · refine lv_tableIn (off := 39) (tgt := 40) hx hb dX11_isOfKind_1 (by rw [s_1_0]; decide) (by rw [s_1_0]; decide) (by rw [s_1_0]; decide) (by decide) ?_
      refine lv_iconst (v := 1) hx hb dX11_isOfKind_40 (by decide) ?_
      exact hend H locs (1) (L, ob_W D f oa C mk im mk ad n g) _ ls w ⟨(by simp [hs_isof, hk, s_1_0]), rfl⟩ (by decide) dX11_isOfKind_41
    by_cases s_1_1 : kind = 1
    · refine lv_tableIn (off := 41) (tgt := 42) hx hb dX11_isOfKind_1 (by rw [s_1_1]; decide) (by rw [s_1_1]; decide) (by rw [s_1_1]; decide) (by decide) ?_
      refine lv_aload_n hx hb dX11_isOfKind_42 rfl (lv_at hl 0 rfl) ?_
      refine va_instY (C := "HungStalls$Jeweller") hx hb hown (hts _ (List.mem_of_getElem? (i := 1) rfl)) (X.2.1.2.2.1 ("HungStalls$Jeweller", "HungStalls$Table") (List.mem_of_getElem? (i := 7) rfl)) (hg_recv X w (hm.2.1 (2 + i) (by omega)).1 ((mk_atS hm hi).trans (by rw [hk]; first | done | rfl)) rfl rfl) dX11_isOfKind_43 ?_
      exact hend H locs (1) (L, ob_W D f oa C mk im mk ad n g) _ ls w ⟨(by simp [hs_isof, hk, s_1_0, s_1_1]), rfl⟩ (by decide) dX11_isOfKind_46
    by_cases s_1_2 : kind = 2
    · refine lv_tableIn (off := 46) (tgt := 47) hx hb dX11_isOfKind_1 (by rw [s_1_2]; decide) (by rw [s_1_2]; decide) (by rw [s_1_2]; decide) (by decide) ?_
      refine lv_aload_n hx hb dX11_isOfKind_47 rfl (lv_at hl 0 rfl) ?_
      refine va_instS hx hb hown (hts _ (List.mem_of_getElem? (i := 2) rfl)) (X.2.1.1.1 1 _ rfl).2 (hg_recv X w (hm.2.1 (2 + i) (by omega)).1 ((mk_atS hm hi).trans (by rw [hk]; first | done | rfl)) rfl rfl) dX11_isOfKind_48 ?_
      exact hend H locs (1) (L, ob_W D f oa C mk im mk ad n g) _ ls w ⟨(by simp [hs_isof, hk, s_1_0, s_1_1, s_1_2]), rfl⟩ (by decide) dX11_isOfKind_51
    by_cases s_1_3 : kind = 3
    · refine lv_tableIn (off := 51) (tgt := 52) hx hb dX11_isOfKind_1 (by rw [s_1_3]; decide) (by rw [s_1_3]; decide) (by rw [s_1_3]; decide) (by decide) ?_
      refine lv_aload_n hx hb dX11_isOfKind_52 rfl (lv_at hl 0 rfl) ?_
      refine va_instNo (C := "HungStalls$Jeweller") hx hb hown (hts _ (List.mem_of_getElem? (i := 3) rfl)) (X.2.1.2.2.2.1 ("HungStalls$Jeweller", "HungStalls$Butcher") (List.mem_of_getElem? (i := 6) rfl)) (hg_recv X w (hm.2.1 (2 + i) (by omega)).1 ((mk_atS hm hi).trans (by rw [hk]; first | done | rfl)) rfl rfl) dX11_isOfKind_53 ?_
      exact hend H locs (0) (L, ob_W D f oa C mk im mk ad n g) _ ls w ⟨(by simp [hs_isof, hk, s_1_0, s_1_1, s_1_2, s_1_3]), rfl⟩ (by decide) dX11_isOfKind_56
    by_cases s_1_4 : kind = 4
    · refine lv_tableIn (off := 56) (tgt := 57) hx hb dX11_isOfKind_1 (by rw [s_1_4]; decide) (by rw [s_1_4]; decide) (by rw [s_1_4]; decide) (by decide) ?_
      refine lv_aload_n hx hb dX11_isOfKind_57 rfl (lv_at hl 0 rfl) ?_
      refine va_instNo (C := "HungStalls$Jeweller") hx hb hown (hts _ (List.mem_of_getElem? (i := 4) rfl)) (X.2.1.2.2.2.1 ("HungStalls$Jeweller", "HungStalls$Notary") (List.mem_of_getElem? (i := 10) rfl)) (hg_recv X w (hm.2.1 (2 + i) (by omega)).1 ((mk_atS hm hi).trans (by rw [hk]; first | done | rfl)) rfl rfl) dX11_isOfKind_58 ?_
      exact hend H locs (0) (L, ob_W D f oa C mk im mk ad n g) _ ls w ⟨(by simp [hs_isof, hk, s_1_0, s_1_1, s_1_2, s_1_3, s_1_4]), rfl⟩ (by decide) dX11_isOfKind_61
    by_cases s_1_5 : kind = 5
    · refine lv_tableIn (off := 61) (tgt := 62) hx hb dX11_isOfKind_1 (by rw [s_1_5]; decide) (by rw [s_1_5]; decide) (by rw [s_1_5]; decide) (by decide) ?_
      refine lv_aload_n hx hb dX11_isOfKind_62 rfl (lv_at hl 0 rfl) ?_
      refine va_instNo (C := "HungStalls$Jeweller") hx hb hown (hts _ (List.mem_of_getElem? (i := 5) rfl)) (X.2.1.2.2.2.1 ("HungStalls$Jeweller", "HungStalls$Vulture") (List.mem_of_getElem? (i := 13) rfl)) (hg_recv X w (hm.2.1 (2 + i) (by omega)).1 ((mk_atS hm hi).trans (by rw [hk]; first | done | rfl)) rfl rfl) dX11_isOfKind_63 ?_
      exact hend H locs (0) (L, ob_W D f oa C mk im mk ad n g) _ ls w ⟨(by simp [hs_isof, hk, s_1_0, s_1_1, s_1_2, s_1_3, s_1_4, s_1_5]), rfl⟩ (by decide) dX11_isOfKind_66
    refine lv_tableOut (tgt := 67) hx hb dX11_isOfKind_1 (by have t0 := lv_neT s_1_0 (a := 0) (by decide); have t1 := lv_neT s_1_1 (a := 1) (by decide); have t2 := lv_neT s_1_2 (a := 2) (by decide); have t3 := lv_neT s_1_3 (a := 3) (by decide); have t4 := lv_neT s_1_4 (a := 4) (by decide); have t5 := lv_neT s_1_5 (a := 5) (by decide); omega) (by decide) ?_
    refine lv_iconst (v := 0) hx hb dX11_isOfKind_67 (by decide) ?_
    exact hend H locs (0) (L, ob_W D f oa C mk im mk ad n g) _ ls w ⟨(by simp [hs_isof, hk, s_1_0, s_1_1, s_1_2, s_1_3, s_1_4, s_1_5]), rfl⟩ (by decide) dX11_isOfKind_68
  · refine lv_iload_n hx hb dX11_isOfKind_0 rfl (lv_at hl 1 rfl) ?_
    by_cases s_1_0 : kind = 0
    · refine lv_tableIn (off := 39) (tgt := 40) hx hb dX11_isOfKind_1 (by rw [s_1_0]; decide) (by rw [s_1_0]; decide) (by rw [s_1_0]; decide) (by decide) ?_
      refine lv_iconst (v := 1) hx hb dX11_isOfKind_40 (by decide) ?_
      exact hend H locs (1) (L, ob_W D f oa C mk im mk ad n g) _ ls w ⟨(by simp [hs_isof, hk, s_1_0]), rfl⟩ (by decide) dX11_isOfKind_41
    by_cases s_1_1 : kind = 1
    · refine lv_tableIn (off := 41) (tgt := 42) hx hb dX11_isOfKind_1 (by rw [s_1_1]; decide) (by rw [s_1_1]; decide) (by rw [s_1_1]; decide) (by decide) ?_
      refine lv_aload_n hx hb dX11_isOfKind_42 rfl (lv_at hl 0 rfl) ?_
      refine va_instY (C := "HungStalls$Butcher") hx hb hown (hts _ (List.mem_of_getElem? (i := 1) rfl)) (X.2.1.2.2.1 ("HungStalls$Butcher", "HungStalls$Table") (List.mem_of_getElem? (i := 8) rfl)) (hg_recv X w (hm.2.1 (2 + i) (by omega)).1 ((mk_atS hm hi).trans (by rw [hk]; first | done | rfl)) rfl rfl) dX11_isOfKind_43 ?_
      exact hend H locs (1) (L, ob_W D f oa C mk im mk ad n g) _ ls w ⟨(by simp [hs_isof, hk, s_1_0, s_1_1]), rfl⟩ (by decide) dX11_isOfKind_46
    by_cases s_1_2 : kind = 2
    · refine lv_tableIn (off := 46) (tgt := 47) hx hb dX11_isOfKind_1 (by rw [s_1_2]; decide) (by rw [s_1_2]; decide) (by rw [s_1_2]; decide) (by decide) ?_
      refine lv_aload_n hx hb dX11_isOfKind_47 rfl (lv_at hl 0 rfl) ?_
      refine va_instNo (C := "HungStalls$Butcher") hx hb hown (hts _ (List.mem_of_getElem? (i := 2) rfl)) (X.2.1.2.2.2.1 ("HungStalls$Butcher", "HungStalls$Jeweller") (List.mem_of_getElem? (i := 2) rfl)) (hg_recv X w (hm.2.1 (2 + i) (by omega)).1 ((mk_atS hm hi).trans (by rw [hk]; first | done | rfl)) rfl rfl) dX11_isOfKind_48 ?_
      exact hend H locs (0) (L, ob_W D f oa C mk im mk ad n g) _ ls w ⟨(by simp [hs_isof, hk, s_1_0, s_1_1, s_1_2]), rfl⟩ (by decide) dX11_isOfKind_51
    by_cases s_1_3 : kind = 3
    · refine lv_tableIn (off := 51) (tgt := 52) hx hb dX11_isOfKind_1 (by rw [s_1_3]; decide) (by rw [s_1_3]; decide) (by rw [s_1_3]; decide) (by decide) ?_
      refine lv_aload_n hx hb dX11_isOfKind_52 rfl (lv_at hl 0 rfl) ?_
      refine va_instS hx hb hown (hts _ (List.mem_of_getElem? (i := 3) rfl)) (X.2.1.1.1 0 _ rfl).2 (hg_recv X w (hm.2.1 (2 + i) (by omega)).1 ((mk_atS hm hi).trans (by rw [hk]; first | done | rfl)) rfl rfl) dX11_isOfKind_53 ?_
      exact hend H locs (1) (L, ob_W D f oa C mk im mk ad n g) _ ls w ⟨(by simp [hs_isof, hk, s_1_0, s_1_1, s_1_2, s_1_3]), rfl⟩ (by decide) dX11_isOfKind_56
    by_cases s_1_4 : kind = 4
    · refine lv_tableIn (off := 56) (tgt := 57) hx hb dX11_isOfKind_1 (by rw [s_1_4]; decide) (by rw [s_1_4]; decide) (by rw [s_1_4]; decide) (by decide) ?_
      refine lv_aload_n hx hb dX11_isOfKind_57 rfl (lv_at hl 0 rfl) ?_
      refine va_instNo (C := "HungStalls$Butcher") hx hb hown (hts _ (List.mem_of_getElem? (i := 4) rfl)) (X.2.1.2.2.2.1 ("HungStalls$Butcher", "HungStalls$Notary") (List.mem_of_getElem? (i := 11) rfl)) (hg_recv X w (hm.2.1 (2 + i) (by omega)).1 ((mk_atS hm hi).trans (by rw [hk]; first | done | rfl)) rfl rfl) dX11_isOfKind_58 ?_
      exact hend H locs (0) (L, ob_W D f oa C mk im mk ad n g) _ ls w ⟨(by simp [hs_isof, hk, s_1_0, s_1_1, s_1_2, s_1_3, s_1_4]), rfl⟩ (by decide) dX11_isOfKind_61
    by_cases s_1_5 : kind = 5
    · refine lv_tableIn (off := 61) (tgt := 62) hx hb dX11_isOfKind_1 (by rw [s_1_5]; decide) (by rw [s_1_5]; decide) (by rw [s_1_5]; decide) (by decide) ?_
      refine lv_aload_n hx hb dX11_isOfKind_62 rfl (lv_at hl 0 rfl) ?_
      refine va_instNo (C := "HungStalls$Butcher") hx hb hown (hts _ (List.mem_of_getElem? (i := 5) rfl)) (X.2.1.2.2.2.1 ("HungStalls$Butcher", "HungStalls$Vulture") (List.mem_of_getElem? (i := 14) rfl)) (hg_recv X w (hm.2.1 (2 + i) (by omega)).1 ((mk_atS hm hi).trans (by rw [hk]; first | done | rfl)) rfl rfl) dX11_isOfKind_63 ?_
      exact hend H locs (0) (L, ob_W D f oa C mk im mk ad n g) _ ls w ⟨(by simp [hs_isof, hk, s_1_0, s_1_1, s_1_2, s_1_3, s_1_4, s_1_5]), rfl⟩ (by decide) dX11_isOfKind_66
    refine lv_tableOut (tgt := 67) hx hb dX11_isOfKind_1 (by have t0 := lv_neT s_1_0 (a := 0) (by decide); have t1 := lv_neT s_1_1 (a := 1) (by decide); have t2 := lv_neT s_1_2 (a := 2) (by decide); have t3 := lv_neT s_1_3 (a := 3) (by decide); have t4 := lv_neT s_1_4 (a := 4) (by decide); have t5 := lv_neT s_1_5 (a := 5) (by decide); omega) (by decide) ?_
    refine lv_iconst (v := 0) hx hb dX11_isOfKind_67 (by decide) ?_
    exact hend H locs (0) (L, ob_W D f oa C mk im mk ad n g) _ ls w ⟨(by simp [hs_isof, hk, s_1_0, s_1_1, s_1_2, s_1_3, s_1_4, s_1_5]), rfl⟩ (by decide) dX11_isOfKind_68
  · refine lv_iload_n hx hb dX11_isOfKind_0 rfl (lv_at hl 1 rfl) ?_
    by_cases s_1_0 : kind = 0
    · refine lv_tableIn (off := 39) (tgt := 40) hx hb dX11_isOfKind_1 (by rw [s_1_0]; decide) (by rw [s_1_0]; decide) (by rw [s_1_0]; decide) (by decide) ?_
      refine lv_iconst (v := 1) hx hb dX11_isOfKind_40 (by decide) ?_
      exact hend H locs (1) (L, ob_W D f oa C mk im mk ad n g) _ ls w ⟨(by simp [hs_isof, hk, s_1_0]), rfl⟩ (by decide) dX11_isOfKind_41
    by_cases s_1_1 : kind = 1
    · refine lv_tableIn (off := 41) (tgt := 42) hx hb dX11_isOfKind_1 (by rw [s_1_1]; decide) (by rw [s_1_1]; decide) (by rw [s_1_1]; decide) (by decide) ?_
      refine lv_aload_n hx hb dX11_isOfKind_42 rfl (lv_at hl 0 rfl) ?_
      refine va_instNo (C := "HungStalls$Notary") hx hb hown (hts _ (List.mem_of_getElem? (i := 1) rfl)) (X.2.1.2.2.2.1 ("HungStalls$Notary", "HungStalls$Table") (List.mem_of_getElem? (i := 0) rfl)) (hg_recv X w (hm.2.1 (2 + i) (by omega)).1 ((mk_atS hm hi).trans (by rw [hk]; first | done | rfl)) rfl rfl) dX11_isOfKind_43 ?_
      exact hend H locs (0) (L, ob_W D f oa C mk im mk ad n g) _ ls w ⟨(by simp [hs_isof, hk, s_1_0, s_1_1]), rfl⟩ (by decide) dX11_isOfKind_46
    by_cases s_1_2 : kind = 2
    · refine lv_tableIn (off := 46) (tgt := 47) hx hb dX11_isOfKind_1 (by rw [s_1_2]; decide) (by rw [s_1_2]; decide) (by rw [s_1_2]; decide) (by decide) ?_
      refine lv_aload_n hx hb dX11_isOfKind_47 rfl (lv_at hl 0 rfl) ?_
      refine va_instNo (C := "HungStalls$Notary") hx hb hown (hts _ (List.mem_of_getElem? (i := 2) rfl)) (X.2.1.2.2.2.1 ("HungStalls$Notary", "HungStalls$Jeweller") (List.mem_of_getElem? (i := 3) rfl)) (hg_recv X w (hm.2.1 (2 + i) (by omega)).1 ((mk_atS hm hi).trans (by rw [hk]; first | done | rfl)) rfl rfl) dX11_isOfKind_48 ?_
      exact hend H locs (0) (L, ob_W D f oa C mk im mk ad n g) _ ls w ⟨(by simp [hs_isof, hk, s_1_0, s_1_1, s_1_2]), rfl⟩ (by decide) dX11_isOfKind_51
    by_cases s_1_3 : kind = 3
    · refine lv_tableIn (off := 51) (tgt := 52) hx hb dX11_isOfKind_1 (by rw [s_1_3]; decide) (by rw [s_1_3]; decide) (by rw [s_1_3]; decide) (by decide) ?_
      refine lv_aload_n hx hb dX11_isOfKind_52 rfl (lv_at hl 0 rfl) ?_
      refine va_instNo (C := "HungStalls$Notary") hx hb hown (hts _ (List.mem_of_getElem? (i := 3) rfl)) (X.2.1.2.2.2.1 ("HungStalls$Notary", "HungStalls$Butcher") (List.mem_of_getElem? (i := 7) rfl)) (hg_recv X w (hm.2.1 (2 + i) (by omega)).1 ((mk_atS hm hi).trans (by rw [hk]; first | done | rfl)) rfl rfl) dX11_isOfKind_53 ?_
      exact hend H locs (0) (L, ob_W D f oa C mk im mk ad n g) _ ls w ⟨(by simp [hs_isof, hk, s_1_0, s_1_1, s_1_2, s_1_3]), rfl⟩ (by decide) dX11_isOfKind_56
    by_cases s_1_4 : kind = 4
    · refine lv_tableIn (off := 56) (tgt := 57) hx hb dX11_isOfKind_1 (by rw [s_1_4]; decide) (by rw [s_1_4]; decide) (by rw [s_1_4]; decide) (by decide) ?_
      refine lv_aload_n hx hb dX11_isOfKind_57 rfl (lv_at hl 0 rfl) ?_
      refine va_instS hx hb hown (hts _ (List.mem_of_getElem? (i := 4) rfl)) (X.2.1.1.1 3 _ rfl).2 (hg_recv X w (hm.2.1 (2 + i) (by omega)).1 ((mk_atS hm hi).trans (by rw [hk]; first | done | rfl)) rfl rfl) dX11_isOfKind_58 ?_
      exact hend H locs (1) (L, ob_W D f oa C mk im mk ad n g) _ ls w ⟨(by simp [hs_isof, hk, s_1_0, s_1_1, s_1_2, s_1_3, s_1_4]), rfl⟩ (by decide) dX11_isOfKind_61
    by_cases s_1_5 : kind = 5
    · refine lv_tableIn (off := 61) (tgt := 62) hx hb dX11_isOfKind_1 (by rw [s_1_5]; decide) (by rw [s_1_5]; decide) (by rw [s_1_5]; decide) (by decide) ?_
      refine lv_aload_n hx hb dX11_isOfKind_62 rfl (lv_at hl 0 rfl) ?_
      refine va_instNo (C := "HungStalls$Notary") hx hb hown (hts _ (List.mem_of_getElem? (i := 5) rfl)) (X.2.1.2.2.2.1 ("HungStalls$Notary", "HungStalls$Vulture") (List.mem_of_getElem? (i := 15) rfl)) (hg_recv X w (hm.2.1 (2 + i) (by omega)).1 ((mk_atS hm hi).trans (by rw [hk]; first | done | rfl)) rfl rfl) dX11_isOfKind_63 ?_
      exact hend H locs (0) (L, ob_W D f oa C mk im mk ad n g) _ ls w ⟨(by simp [hs_isof, hk, s_1_0, s_1_1, s_1_2, s_1_3, s_1_4, s_1_5]), rfl⟩ (by decide) dX11_isOfKind_66
    refine lv_tableOut (tgt := 67) hx hb dX11_isOfKind_1 (by have t0 := lv_neT s_1_0 (a := 0) (by decide); have t1 := lv_neT s_1_1 (a := 1) (by decide); have t2 := lv_neT s_1_2 (a := 2) (by decide); have t3 := lv_neT s_1_3 (a := 3) (by decide); have t4 := lv_neT s_1_4 (a := 4) (by decide); have t5 := lv_neT s_1_5 (a := 5) (by decide); omega) (by decide) ?_
    refine lv_iconst (v := 0) hx hb dX11_isOfKind_67 (by decide) ?_
    exact hend H locs (0) (L, ob_W D f oa C mk im mk ad n g) _ ls w ⟨(by simp [hs_isof, hk, s_1_0, s_1_1, s_1_2, s_1_3, s_1_4, s_1_5]), rfl⟩ (by decide) dX11_isOfKind_68
  · refine lv_iload_n hx hb dX11_isOfKind_0 rfl (lv_at hl 1 rfl) ?_
    by_cases s_1_0 : kind = 0
    · refine lv_tableIn (off := 39) (tgt := 40) hx hb dX11_isOfKind_1 (by rw [s_1_0]; decide) (by rw [s_1_0]; decide) (by rw [s_1_0]; decide) (by decide) ?_
      refine lv_iconst (v := 1) hx hb dX11_isOfKind_40 (by decide) ?_
      exact hend H locs (1) (L, ob_W D f oa C mk im mk ad n g) _ ls w ⟨(by simp [hs_isof, hk, s_1_0]), rfl⟩ (by decide) dX11_isOfKind_41
    by_cases s_1_1 : kind = 1
    · refine lv_tableIn (off := 41) (tgt := 42) hx hb dX11_isOfKind_1 (by rw [s_1_1]; decide) (by rw [s_1_1]; decide) (by rw [s_1_1]; decide) (by decide) ?_
      refine lv_aload_n hx hb dX11_isOfKind_42 rfl (lv_at hl 0 rfl) ?_
      refine va_instNo (C := "HungStalls$Vulture") hx hb hown (hts _ (List.mem_of_getElem? (i := 1) rfl)) (X.2.1.2.2.2.1 ("HungStalls$Vulture", "HungStalls$Table") (List.mem_of_getElem? (i := 1) rfl)) (hg_recv X w (hm.2.1 (2 + i) (by omega)).1 ((mk_atS hm hi).trans (by rw [hk]; first | done | rfl)) rfl rfl) dX11_isOfKind_43 ?_
      exact hend H locs (0) (L, ob_W D f oa C mk im mk ad n g) _ ls w ⟨(by simp [hs_isof, hk, s_1_0, s_1_1]), rfl⟩ (by decide) dX11_isOfKind_46
    by_cases s_1_2 : kind = 2
    · refine lv_tableIn (off := 46) (tgt := 47) hx hb dX11_isOfKind_1 (by rw [s_1_2]; decide) (by rw [s_1_2]; decide) (by rw [s_1_2]; decide) (by decide) ?_
      refine lv_aload_n hx hb dX11_isOfKind_47 rfl (lv_at hl 0 rfl) ?_
      refine va_instNo (C := "HungStalls$Vulture") hx hb hown (hts _ (List.mem_of_getElem? (i := 2) rfl)) (X.2.1.2.2.2.1 ("HungStalls$Vulture", "HungStalls$Jeweller") (List.mem_of_getElem? (i := 4) rfl)) (hg_recv X w (hm.2.1 (2 + i) (by omega)).1 ((mk_atS hm hi).trans (by rw [hk]; first | done | rfl)) rfl rfl) dX11_isOfKind_48 ?_
      exact hend H locs (0) (L, ob_W D f oa C mk im mk ad n g) _ ls w ⟨(by simp [hs_isof, hk, s_1_0, s_1_1, s_1_2]), rfl⟩ (by decide) dX11_isOfKind_51
    by_cases s_1_3 : kind = 3
    · refine lv_tableIn (off := 51) (tgt := 52) hx hb dX11_isOfKind_1 (by rw [s_1_3]; decide) (by rw [s_1_3]; decide) (by rw [s_1_3]; decide) (by decide) ?_
      refine lv_aload_n hx hb dX11_isOfKind_52 rfl (lv_at hl 0 rfl) ?_
      refine va_instNo (C := "HungStalls$Vulture") hx hb hown (hts _ (List.mem_of_getElem? (i := 3) rfl)) (X.2.1.2.2.2.1 ("HungStalls$Vulture", "HungStalls$Butcher") (List.mem_of_getElem? (i := 8) rfl)) (hg_recv X w (hm.2.1 (2 + i) (by omega)).1 ((mk_atS hm hi).trans (by rw [hk]; first | done | rfl)) rfl rfl) dX11_isOfKind_53 ?_
      exact hend H locs (0) (L, ob_W D f oa C mk im mk ad n g) _ ls w ⟨(by simp [hs_isof, hk, s_1_0, s_1_1, s_1_2, s_1_3]), rfl⟩ (by decide) dX11_isOfKind_56
    by_cases s_1_4 : kind = 4
    · refine lv_tableIn (off := 56) (tgt := 57) hx hb dX11_isOfKind_1 (by rw [s_1_4]; decide) (by rw [s_1_4]; decide) (by rw [s_1_4]; decide) (by decide) ?_
      refine lv_aload_n hx hb dX11_isOfKind_57 rfl (lv_at hl 0 rfl) ?_
      refine va_instY (C := "HungStalls$Vulture") hx hb hown (hts _ (List.mem_of_getElem? (i := 4) rfl)) (X.2.1.2.2.1 ("HungStalls$Vulture", "HungStalls$Notary") (List.mem_of_getElem? (i := 9) rfl)) (hg_recv X w (hm.2.1 (2 + i) (by omega)).1 ((mk_atS hm hi).trans (by rw [hk]; first | done | rfl)) rfl rfl) dX11_isOfKind_58 ?_
      exact hend H locs (1) (L, ob_W D f oa C mk im mk ad n g) _ ls w ⟨(by simp [hs_isof, hk, s_1_0, s_1_1, s_1_2, s_1_3, s_1_4]), rfl⟩ (by decide) dX11_isOfKind_61
    by_cases s_1_5 : kind = 5
    · refine lv_tableIn (off := 61) (tgt := 62) hx hb dX11_isOfKind_1 (by rw [s_1_5]; decide) (by rw [s_1_5]; decide) (by rw [s_1_5]; decide) (by decide) ?_
      refine lv_aload_n hx hb dX11_isOfKind_62 rfl (lv_at hl 0 rfl) ?_
      refine va_instS hx hb hown (hts _ (List.mem_of_getElem? (i := 5) rfl)) (X.2.1.1.1 8 _ rfl).2 (hg_recv X w (hm.2.1 (2 + i) (by omega)).1 ((mk_atS hm hi).trans (by rw [hk]; first | done | rfl)) rfl rfl) dX11_isOfKind_63 ?_
      exact hend H locs (1) (L, ob_W D f oa C mk im mk ad n g) _ ls w ⟨(by simp [hs_isof, hk, s_1_0, s_1_1, s_1_2, s_1_3, s_1_4, s_1_5]), rfl⟩ (by decide) dX11_isOfKind_66
    refine lv_tableOut (tgt := 67) hx hb dX11_isOfKind_1 (by have t0 := lv_neT s_1_0 (a := 0) (by decide); have t1 := lv_neT s_1_1 (a := 1) (by decide); have t2 := lv_neT s_1_2 (a := 2) (by decide); have t3 := lv_neT s_1_3 (a := 3) (by decide); have t4 := lv_neT s_1_4 (a := 4) (by decide); have t5 := lv_neT s_1_5 (a := 5) (by decide); omega) (by decide) ?_
    refine lv_iconst (v := 0) hx hb dX11_isOfKind_67 (by decide) ?_
    exact hend H locs (0) (L, ob_W D f oa C mk im mk ad n g) _ ls w ⟨(by simp [hs_isof, hk, s_1_0, s_1_1, s_1_2, s_1_3, s_1_4, s_1_5]), rfl⟩ (by decide) dX11_isOfKind_68
set_option maxRecDepth 100000 in
set_option maxHeartbeats 4000000 in
theorem c_X11_numberOf_n (l : Launch) (D : va_G) (b0 : Nat) (L : List Nat) (f : Nat → va_E) (oa : Nat → Nat) (C : Nat → Nat → Int32) (im : Nat → Option Nat) (mk : Nat) (ad : Nat → Nat) (n : Nat) (g : Nat → Int32) (hm : mk_ok L mk ad n) (hs : mk_sr g n) (ho : ob_ok L oa mk ad n)  : hg_Fi l yX11_numberOf wsX11_numberOf ({ frames := 0, cells := 0, slots := 0, locals := 0 }) D b0 L (ob_W D f oa C mk im mk ad n g) [.null] (hs_NONE) (ob_W D f oa C mk im mk ad n g) := by
  refine hg_in_i (cc := cX11_numberOf) (nL := 1) (by decide) rfl (Nat.le_of_ble_eq_true rfl) (fun p e s m args below meth c R Q X hR hend H locs ls w hl => ?_)
  subst hR
  obtain ⟨hx, hb, hml, hown, hts⟩ := id X.1
  have hin : mk_in wsX11_numberOf := ⟨fun w h => List.mem_cons_of_mem _ (List.mem_append_left _ (List.mem_append_left _ (List.mem_append_left _ (List.mem_append_left _ (List.mem_append_right _ h))))), fun w h => List.mem_cons_of_mem _ (List.mem_append_left _ (List.mem_append_left _ (List.mem_append_left _ (List.mem_append_right _ h)))), fun w h => List.mem_cons_of_mem _ (List.mem_append_left _ (List.mem_append_left _ (List.mem_append_right _ h))), fun w h => List.mem_cons_of_mem _ (List.mem_append_left _ (List.mem_append_right _ h)), fun w h => List.mem_cons_of_mem _ (List.mem_append_right _ h)⟩
  have hl : lv_has ls 1 [(0, .null)] := hl
  refine lv_aload_nN hx hb dX11_numberOf_0 rfl (lv_at hl 0 rfl) ?_
  refine lv_ifnonnullN hx hb dX11_numberOf_1 ?_
  refine lv_ldcw (v := (-1000000)) hx hb hown (hts _ (List.mem_of_getElem? (i := 1) rfl)) dX11_numberOf_4 ?_
  refine lv_goto (tgt := 14) hx hb dX11_numberOf_7 (by decide) ?_
  exact hend H locs ((-1000000)) (L, ob_W D f oa C mk im mk ad n g) _ ls w ⟨rfl, rfl⟩ rfl dX11_numberOf_14
set_option maxRecDepth 100000 in
set_option maxHeartbeats 4000000 in
theorem c_X11_numberOf_s (l : Launch) (D : va_G) (b0 : Nat) (L : List Nat) (f : Nat → va_E) (oa : Nat → Nat) (C : Nat → Nat → Int32) (im : Nat → Option Nat) (mk : Nat) (ad : Nat → Nat) (n : Nat) (g : Nat → Int32) (hm : mk_ok L mk ad n) (hs : mk_sr g n) (ho : ob_ok L oa mk ad n) (i : Nat) (hi : i < n) : hg_Fi l yX11_numberOf wsX11_numberOf ({ frames := 0, cells := 0, slots := 0, locals := 0 }) D b0 L (ob_W D f oa C mk im mk ad n g) [.ref (ad (2 + i))] (nI i) (ob_W D f oa C mk im mk ad n g) := by
  refine hg_in_i (cc := cX11_numberOf) (nL := 1) (by decide) rfl (Nat.le_of_ble_eq_true rfl) (fun p e s m args below meth c R Q X hR hend H locs ls w hl => ?_)
  subst hR
  obtain ⟨hx, hb, hml, hown, hts⟩ := id X.1
  have hin : mk_in wsX11_numberOf := ⟨fun w h => List.mem_cons_of_mem _ (List.mem_append_left _ (List.mem_append_left _ (List.mem_append_left _ (List.mem_append_left _ (List.mem_append_right _ h))))), fun w h => List.mem_cons_of_mem _ (List.mem_append_left _ (List.mem_append_left _ (List.mem_append_left _ (List.mem_append_right _ h)))), fun w h => List.mem_cons_of_mem _ (List.mem_append_left _ (List.mem_append_left _ (List.mem_append_right _ h))), fun w h => List.mem_cons_of_mem _ (List.mem_append_left _ (List.mem_append_right _ h)), fun w h => List.mem_cons_of_mem _ (List.mem_append_right _ h)⟩
  have hl : lv_has ls 1 [(0, .ref (ad (2 + i)))] := hl
  refine lv_aload_n hx hb dX11_numberOf_0 rfl (lv_at hl 0 rfl) ?_
  refine lv_ifnonnull (tgt := 10) hx hb dX11_numberOf_1 (by decide) ?_
  refine lv_aload_n hx hb dX11_numberOf_10 rfl (lv_at hl 0 rfl) ?_
  refine mk_get X w hm hs hin hi 0 (by decide) (List.mem_of_getElem? (i := 2) rfl) (Or.inl rfl) rfl dX11_numberOf_11 ?_
  exact hend H locs (nI i) (L, ob_W D f oa C mk im mk ad n g) _ ls w ⟨rfl, rfl⟩ rfl dX11_numberOf_14
theorem hdX11_noPlace : yX11_noPlace.cls ≠ "java/lang/invoke/MethodHandle" ∧ yX11_noPlace.cls ≠ "java/lang/invoke/VarHandle" ∧ (parseMethodDescriptor yX11_noPlace.desc).map (fun d => d.parameters.length) = some 1 := by decide +kernel
set_option maxRecDepth 100000 in
set_option maxHeartbeats 4000000 in
theorem c_X11_slide (l : Launch) (D : va_G) (b0 : Nat) (L : List Nat) (f : Nat → va_E) (oa : Nat → Nat) (C : Nat → Nat → Int32) (im : Nat → Option Nat) (mk : Nat) (ad : Nat → Nat) (n : Nat) (g : Nat → Int32) (hm : mk_ok L mk ad n) (hs : mk_sr g n) (ho : ob_ok L oa mk ad n) (a : Nat) (ha : a ≤ 24) (hCa : C 1 0 = nI a) (s0 k : Int32) : hg_Fi l yX11_slide wsX11_slide ({ frames := 3, cells := 0, slots := 0, locals := 70 }) D b0 L (ob_W D f oa C mk im mk ad n g) [.ref (oa 0), .int (s0), .int (k)] ((cs_slide C g n a s0 k).1) (ob_W D f oa ((cs_slide C g n a s0 k).2.1) mk im mk ad n ((cs_slide C g n a s0 k).2.2)) := by
  refine hg_in_i (cc := cX11_slide) (nL := 5) (by decide) rfl (Nat.le_of_ble_eq_true rfl) (fun p e s m args below meth c R Q X hR hend H locs ls w hl => ?_)
  subst hR
  obtain ⟨hx, hb, hml, hown, hts⟩ := id X.1
  have hin : mk_in wsX11_slide := ⟨fun w h => List.mem_cons_of_mem _ (List.mem_append_left _ (List.mem_append_left _ (List.mem_append_left _ (List.mem_append_left _ (List.mem_append_left _ (List.mem_append_right _ h)))))), fun w h => List.mem_cons_of_mem _ (List.mem_append_left _ (List.mem_append_left _ (List.mem_append_left _ (List.mem_append_left _ (List.mem_append_right _ h))))), fun w h => List.mem_cons_of_mem _ (List.mem_append_left _ (List.mem_append_left _ (List.mem_append_left _ (List.mem_append_right _ h)))), fun w h => List.mem_cons_of_mem _ (List.mem_append_left _ (List.mem_append_left _ (List.mem_append_right _ h))), fun w h => List.mem_cons_of_mem _ (List.mem_append_left _ (List.mem_append_right _ h))⟩
  have hin3 : ∀ w ∈ wsX30, w ∈ wsX11_slide := fun w h => List.mem_cons_of_mem _ (List.mem_append_right _ h)
  have hin11 : ∀ w ∈ wsX110, w ∈ wsX11_slide := fun w h => List.mem_cons_of_mem _ (List.mem_append_left _ (List.mem_append_left _ (List.mem_append_left _ (List.mem_append_left _ (List.mem_append_left _ (List.mem_append_left _ (List.mem_append_right _ h)))))))
  have hl : lv_has ls 5 [(0, .ref (oa 0)), (1, .int (s0)), (2, .int (k))] := hl
  have hn6 := hs.2.1
  refine lv_aload_n hx hb dX11_slide_0 rfl (lv_at hl 0 rfl) ?_
  refine lv_iload_n hx hb dX11_slide_1 rfl (lv_at hl 1 rfl) ?_
  refine hg_vqF (r := cs_sa ad g s0) (As := [.int (s0)]) (rest := []) X w (c_X11_stallAt l D b0 L f oa C im mk ad n g hm hs ho s0) (cwV 1 hts gX11_slide_X11_stallAt rfl rfl rfl hdX11_stallAt ⟨Nat.le_of_ble_eq_true rfl, Nat.le_of_ble_eq_true rfl⟩) (ho.1 0 (by decide)).1 (ow_at ho (k := 0) (by decide)) rfl rfl rfl hl.1 rfl (Nat.le_of_ble_eq_true rfl) dX11_slide_2 ⟨Nat.zero_le _, Nat.zero_le _⟩ (fun H locs w => ?_)
  refine ob_qs hs (fun hz_s0 => ?_) (fun j_s0 hj_s0 e_s0 => ?_)
  · refine lv_astore_nN (lv' := [(3, .null), (0, .ref (oa 0)), (1, .int (s0)), (2, .int (k))]) hx hb dX11_slide_5 rfl hl (by decide) rfl (fun ls hl => ?_)
    refine lv_aload_nN hx hb dX11_slide_6 rfl (lv_at hl 0 rfl) ?_
    refine lv_ifnullN (tgt := 17) hx hb dX11_slide_7 (by decide) ?_
    refine lv_ldc (v := (-1000001)) hx hb hown (hts _ (List.mem_of_getElem? (i := 1) rfl)) dX11_slide_17 ?_
    exact hend H locs ((-1000001)) (L, ob_W D f oa C mk im mk ad n g) _ ls w ⟨(by (try simp only [hs_if10, ← Int32.not_lt, Classical.not_not] at hz_s0); first | (simp [cs_slide, hz_s0]; done) | (exfalso; clear hend; simp_all; done)), (ob_eq (by (try simp only [hs_if10, ← Int32.not_lt, Classical.not_not] at hz_s0); first | (simp [cs_slide, hz_s0]; done) | (exfalso; clear hend; simp_all; done)) (by (try simp only [hs_if10, ← Int32.not_lt, Classical.not_not] at hz_s0); first | (simp [cs_slide, hz_s0]; done) | (exfalso; clear hend; simp_all; done)))⟩ rfl dX11_slide_19
  · subst e_s0
    have h1j_s0 := cs_st_1 hs hj_s0
    have hcj_s0 : (nI j_s0).toNatClampNeg = j_s0 := nI_clamp (by omega)
    refine lv_astore_n (lv' := [(3, .ref (ad (2 + j_s0))), (0, .ref (oa 0)), (1, .int (nI j_s0)), (2, .int (k))]) hx hb dX11_slide_5 rfl hl (by decide) rfl (fun ls hl => ?_)
    refine lv_aload_n hx hb dX11_slide_6 rfl (lv_at hl 0 rfl) ?_
    refine lv_ifnull hx hb dX11_slide_7 ?_
    refine lv_iload_n hx hb dX11_slide_10 rfl (lv_at hl 3 rfl) ?_
    refine hg_siF (r := (if hs_in k 1 8 = 0 then 1 else 0)) (As := [.int (k)]) (rest := []) X w (c_X11_noPlace l D b0 L f oa C im mk ad n g hm hs ho k) (va_cwS 1 hts gX11_slide_X11_noPlace rfl rfl rfl hdX11_noPlace ⟨Nat.le_of_ble_eq_true rfl, Nat.le_of_ble_eq_true rfl⟩) rfl hl.1 rfl (Nat.le_of_ble_eq_true rfl) dX11_slide_11 ⟨Nat.zero_le _, Nat.zero_le _⟩ (fun H locs w => ?_)
    refine lv_if_eq (tgt := 20) hx hb dX11_slide_14 (by decide) (fun c_14 => ?_) (fun c_14 => ?_)
    · refine lv_aload_n hx hb dX11_slide_20 rfl (lv_at hl 1 rfl) ?_
      refine ob_get X w ho 0 (by decide) (C0 := RX11) (T := TX11) (N := 12) (ci := 9) rfl hin11 rfl 9 (by decide) (List.mem_of_getElem? (i := 2) rfl) rfl rfl dX11_slide_21 ?_
      refine lv_aload_n hx hb dX11_slide_24 rfl (lv_at hl 0 rfl) ?_
      refine mk_get X w hm hs hin hj_s0 1 (by decide) (List.mem_of_getElem? (i := 3) rfl) (Or.inl rfl) rfl dX11_slide_25 ?_
      refine lv_iload_n hx hb dX11_slide_28 rfl (lv_at hl 3 rfl) ?_
      refine hg_vqF (r := (mk_std g (g (14 + j_s0)) k n).map (fun j => ad (2 + j))) (As := [.int (g (14 + j_s0)), .int (k)]) (rest := []) X w (c_X3_standing l D b0 L (ob_F D f oa C mk im) mk ad n g hm hs (g (14 + j_s0)) k) (cwV 2 hts gX11_slide_X3_standing rfl rfl rfl hdX3_standing ⟨Nat.le_of_ble_eq_true rfl, Nat.le_of_ble_eq_true rfl⟩) (hm.1) (mk_at0 D _ mk ad n _) rfl rfl rfl hl.1 rfl (Nat.le_of_ble_eq_true rfl) dX11_slide_29 ⟨Nat.zero_le _, Nat.zero_le _⟩ (fun H locs w => ?_)
      refine mk_qk (ad := ad) (fun hq29 => ?_) (fun jq29 hq29 => ?_)
      · refine lv_ifnullN (tgt := 38) hx hb dX11_slide_32 (by decide) ?_
        refine lv_aload_n hx hb dX11_slide_38 rfl (lv_at hl 0 rfl) ?_
        refine mk_get X w hm hs hin hj_s0 2 (by decide) (List.mem_of_getElem? (i := 5) rfl) (Or.inl rfl) rfl dX11_slide_39 ?_
        refine lv_istore (lv' := [(4, .int (g (20 + j_s0))), (3, .ref (ad (2 + j_s0))), (0, .ref (oa 0)), (1, .int (nI j_s0)), (2, .int (k))]) hx hb dX11_slide_42 hl (by decide) rfl (fun ls hl => ?_)
        refine lv_aload_n hx hb dX11_slide_44 rfl (lv_at hl 2 rfl) ?_
        refine lv_iconst (v := 2) hx hb dX11_slide_45 (by decide) ?_
        refine lv_iload_n hx hb dX11_slide_46 rfl (lv_at hl 3 rfl) ?_
        refine lv_iload hx hb dX11_slide_47 (lv_at hl 0 rfl) ?_
        refine lv_iload_n hx hb dX11_slide_49 rfl (lv_at hl 4 rfl) ?_
        refine hg_vvF (As := [.int (2), .int (nI j_s0), .int (g (20 + j_s0)), .int (k)]) (rest := []) X w (c_X11_act l D b0 L f oa C im mk ad n g hm hs ho a ha hCa 2 (nI j_s0) (g (20 + j_s0)) k) (cwV 4 hts gX11_slide_X11_act rfl rfl rfl hdX11_act ⟨Nat.le_of_ble_eq_true rfl, Nat.le_of_ble_eq_true rfl⟩) (ho.1 0 (by decide)).1 (ow_at ho (k := 0) (by decide)) rfl rfl rfl hl.1 rfl (Nat.le_of_ble_eq_true rfl) dX11_slide_50 ⟨Nat.zero_le _, Nat.zero_le _⟩ (fun H locs w => ?_)
        rw [mk_pm_w2 hn6 hj_s0] at w
        refine lv_iload hx hb dX11_slide_53 (lv_at hl 0 rfl) ?_
        exact hend H locs (g (20 + j_s0)) (L, ob_W D f oa (cs_log C a 2 (nI j_s0) (g (20 + j_s0))) mk im mk ad n (va_up g (20 + j_s0) k)) _ ls w ⟨(by (try simp only [hs_if10, ← Int32.not_lt, Classical.not_not] at c_14); first | (simp [cs_slide, c_14, h1j_s0, hcj_s0, hq29]; done) | (exfalso; clear hend; simp_all; done)), (ob_eq (by (try simp only [hs_if10, ← Int32.not_lt, Classical.not_not] at c_14); first | (simp [cs_slide, c_14, h1j_s0, hcj_s0, hq29]; done) | (exfalso; clear hend; simp_all; done)) (by (try simp only [hs_if10, ← Int32.not_lt, Classical.not_not] at c_14); first | (simp [cs_slide, c_14, h1j_s0, hcj_s0, hq29]; done) | (exfalso; clear hend; simp_all; done)))⟩ rfl dX11_slide_55
      · have hjq29 : jq29 < n := mk_std_lt hq29
        refine lv_ifnull hx hb dX11_slide_32 ?_
        refine lv_ldc (v := (-1000002)) hx hb hown (hts _ (List.mem_of_getElem? (i := 4) rfl)) dX11_slide_35 ?_
        exact hend H locs ((-1000002)) (L, ob_W D f oa C mk im mk ad n g) _ ls w ⟨(by (try simp only [hs_if10, ← Int32.not_lt, Classical.not_not] at c_14); first | (simp [cs_slide, c_14, h1j_s0, hcj_s0, hq29]; done) | (exfalso; clear hend; simp_all; done)), (ob_eq (by (try simp only [hs_if10, ← Int32.not_lt, Classical.not_not] at c_14); first | (simp [cs_slide, c_14, h1j_s0, hcj_s0, hq29]; done) | (exfalso; clear hend; simp_all; done)) (by (try simp only [hs_if10, ← Int32.not_lt, Classical.not_not] at c_14); first | (simp [cs_slide, c_14, h1j_s0, hcj_s0, hq29]; done) | (exfalso; clear hend; simp_all; done)))⟩ rfl dX11_slide_37
    · refine lv_ldc (v := (-1000001)) hx hb hown (hts _ (List.mem_of_getElem? (i := 1) rfl)) dX11_slide_17 ?_
      exact hend H locs ((-1000001)) (L, ob_W D f oa C mk im mk ad n g) _ ls w ⟨(by (try simp only [hs_if10, ← Int32.not_lt, Classical.not_not] at c_14); first | (simp [cs_slide, c_14, h1j_s0, hcj_s0]; done) | (exfalso; clear hend; simp_all; done)), (ob_eq (by (try simp only [hs_if10, ← Int32.not_lt, Classical.not_not] at c_14); first | (simp [cs_slide, c_14, h1j_s0, hcj_s0]; done) | (exfalso; clear hend; simp_all; done)) (by (try simp only [hs_if10, ← Int32.not_lt, Classical.not_not] at c_14); first | (simp [cs_slide, c_14, h1j_s0, hcj_s0]; done) | (exfalso; clear hend; simp_all; done)))⟩ rfl dX11_slide_19
set_option maxRecDepth 100000 in
set_option maxHeartbeats 4000000 in
theorem c_X11_stall (l : Launch) (D : va_G) (b0 : Nat) (L : List Nat) (f : Nat → va_E) (oa : Nat → Nat) (C : Nat → Nat → Int32) (im : Nat → Option Nat) (mk : Nat) (ad : Nat → Nat) (n : Nat) (g : Nat → Int32) (hm : mk_ok L mk ad n) (hs : mk_sr g n) (ho : ob_ok L oa mk ad n) (nr : Nat) (ht : mk_t g nr) (s0 what : Int32) : hg_Fi l yX11_stall wsX11_stall ({ frames := 5, cells := 0, slots := 0, locals := 111 }) D b0 L (ob_W D f oa C mk im mk ad n g) [.ref (oa 0), .int (s0), .int (what)] (cq_stall g n s0 what) (ob_W D f oa C mk im mk ad n g) := by
  refine hg_in_i (cc := cX11_stall) (nL := 4) (by decide) rfl (Nat.le_of_ble_eq_true rfl) (fun p e s m args below meth c R Q X hR hend H locs ls w hl => ?_)
  subst hR
  obtain ⟨hx, hb, hml, hown, hts⟩ := id X.1
  have hin : mk_in wsX11_stall := ⟨fun w h => List.mem_cons_of_mem _ (List.mem_append_left _ (List.mem_append_left _ (List.mem_append_left _ (List.mem_append_left _ (List.mem_append_left _ (List.mem_append_left _ (List.mem_append_right _ h))))))), fun w h => List.mem_cons_of_mem _ (List.mem_append_left _ (List.mem_append_left _ (List.mem_append_left _ (List.mem_append_left _ (List.mem_append_left _ (List.mem_append_right _ h)))))), fun w h => List.mem_cons_of_mem _ (List.mem_append_left _ (List.mem_append_left _ (List.mem_append_left _ (List.mem_append_left _ (List.mem_append_right _ h))))), fun w h => List.mem_cons_of_mem _ (List.mem_append_left _ (List.mem_append_left _ (List.mem_append_left _ (List.mem_append_right _ h)))), fun w h => List.mem_cons_of_mem _ (List.mem_append_left _ (List.mem_append_left _ (List.mem_append_right _ h)))⟩
  have hin3 : ∀ w ∈ wsX30, w ∈ wsX11_stall := fun w h => List.mem_cons_of_mem _ (List.mem_append_right _ h)
  have hin11 : ∀ w ∈ wsX110, w ∈ wsX11_stall := fun w h => List.mem_cons_of_mem _ (List.mem_append_left _ (List.mem_append_right _ h))
  have hl : lv_has ls 4 [(0, .ref (oa 0)), (1, .int (s0)), (2, .int (what))] := hl
  have hn6 := hs.2.1
  refine lv_aload_n hx hb dX11_stall_0 rfl (lv_at hl 0 rfl) ?_
  refine lv_iload_n hx hb dX11_stall_1 rfl (lv_at hl 1 rfl) ?_
  refine hg_vqF (r := cs_sa ad g s0) (As := [.int (s0)]) (rest := []) X w (c_X11_stallAt l D b0 L f oa C im mk ad n g hm hs ho s0) (cwV 1 hts gX11_stall_X11_stallAt rfl rfl rfl hdX11_stallAt ⟨Nat.le_of_ble_eq_true rfl, Nat.le_of_ble_eq_true rfl⟩) (ho.1 0 (by decide)).1 (ow_at ho (k := 0) (by decide)) rfl rfl rfl hl.1 rfl (Nat.le_of_ble_eq_true rfl) dX11_stall_2 ⟨Nat.zero_le _, Nat.zero_le _⟩ (fun H locs w => ?_)
  refine ob_qs hs (fun hz_s0 => ?_) (fun j_s0 hj_s0 e_s0 => ?_)
  · refine lv_astore_nN (lv' := [(3, .null), (0, .ref (oa 0)), (1, .int (s0)), (2, .int (what))]) hx hb dX11_stall_5 rfl hl (by decide) rfl (fun ls hl => ?_)
    refine lv_aload_nN hx hb dX11_stall_6 rfl (lv_at hl 0 rfl) ?_
    refine lv_ifnonnullN hx hb dX11_stall_7 ?_
    refine lv_ldc (v := (-1000001)) hx hb hown (hts _ (List.mem_of_getElem? (i := 1) rfl)) dX11_stall_10 ?_
    exact hend H locs ((-1000001)) (L, ob_W D f oa C mk im mk ad n g) _ ls w ⟨(by (try simp only [lg_cmp_le, lg_cmp_ge, lg_cmp_lt, lg_cmp_gt, hs_if10, ← Int32.not_lt, ← Int64.not_lt, Classical.not_not] at hz_s0); first | (simp [cq_stall, hs_deep, hz_s0]; done) | (simp [cq_stall, hs_deep, hz_s0]; done) | (exfalso; clear hend ; simp_all; done)), rfl⟩ rfl dX11_stall_12
  · subst e_s0
    have h1j_s0 := cs_st_1 hs hj_s0
    have hcj_s0 : (nI j_s0).toNatClampNeg = j_s0 := nI_clamp (by omega)
    refine lv_astore_n (lv' := [(3, .ref (ad (2 + j_s0))), (0, .ref (oa 0)), (1, .int (nI j_s0)), (2, .int (what))]) hx hb dX11_stall_5 rfl hl (by decide) rfl (fun ls hl => ?_)
    refine lv_aload_n hx hb dX11_stall_6 rfl (lv_at hl 0 rfl) ?_
    refine lv_ifnonnull (tgt := 13) hx hb dX11_stall_7 (by decide) ?_
    refine lv_iload_n hx hb dX11_stall_13 rfl (lv_at hl 3 rfl) ?_
    by_cases s_14_0 : what = 0
    · refine lv_tableIn (off := 50) (tgt := 64) hx hb dX11_stall_14 (by rw [s_14_0]; decide) (by rw [s_14_0]; decide) (by rw [s_14_0]; decide) (by decide) ?_
      refine lv_aload_n hx hb dX11_stall_64 rfl (lv_at hl 0 rfl) ?_
      refine mk_get X w hm hs hin hj_s0 1 (by decide) (List.mem_of_getElem? (i := 2) rfl) (Or.inl rfl) rfl dX11_stall_65 ?_
      exact hend H locs (g (14 + j_s0)) (L, ob_W D f oa C mk im mk ad n g) _ ls w ⟨(by (try simp only [lg_cmp_le, lg_cmp_ge, lg_cmp_lt, lg_cmp_gt, hs_if10, ← Int32.not_lt, ← Int64.not_lt, Classical.not_not] at s_14_0); first | (simp [cq_stall, hs_deep, s_14_0, h1j_s0, hcj_s0]; done) | (simp [cq_stall, hs_deep, eq_true s_14_0, h1j_s0, hcj_s0]; done) | (exfalso; clear hend ; simp_all; done)), rfl⟩ rfl dX11_stall_68
    by_cases s_14_1 : what = 1
    · refine lv_tableIn (off := 55) (tgt := 69) hx hb dX11_stall_14 (by rw [s_14_1]; decide) (by rw [s_14_1]; decide) (by rw [s_14_1]; decide) (by decide) ?_
      refine lv_aload_n hx hb dX11_stall_69 rfl (lv_at hl 0 rfl) ?_
      refine mk_get X w hm hs hin hj_s0 2 (by decide) (List.mem_of_getElem? (i := 3) rfl) (Or.inl rfl) rfl dX11_stall_70 ?_
      exact hend H locs (g (20 + j_s0)) (L, ob_W D f oa C mk im mk ad n g) _ ls w ⟨(by (try simp only [lg_cmp_le, lg_cmp_ge, lg_cmp_lt, lg_cmp_gt, hs_if10, ← Int32.not_lt, ← Int64.not_lt, Classical.not_not] at s_14_0 s_14_1); first | (simp [cq_stall, hs_deep, s_14_0, s_14_1, h1j_s0, hcj_s0]; done) | (simp [cq_stall, hs_deep, s_14_0, eq_true s_14_1, h1j_s0, hcj_s0]; done) | (exfalso; clear hend ; simp_all; done)), rfl⟩ rfl dX11_stall_73
    by_cases s_14_2 : what = 2
    · refine lv_tableIn (off := 60) (tgt := 74) hx hb dX11_stall_14 (by rw [s_14_2]; decide) (by rw [s_14_2]; decide) (by rw [s_14_2]; decide) (by decide) ?_
      refine lv_aload_n hx hb dX11_stall_74 rfl (lv_at hl 0 rfl) ?_
      refine mk_get X w hm hs hin hj_s0 3 (by decide) (List.mem_of_getElem? (i := 4) rfl) (Or.inl rfl) rfl dX11_stall_75 ?_
      exact hend H locs (g (26 + j_s0)) (L, ob_W D f oa C mk im mk ad n g) _ ls w ⟨(by (try simp only [lg_cmp_le, lg_cmp_ge, lg_cmp_lt, lg_cmp_gt, hs_if10, ← Int32.not_lt, ← Int64.not_lt, Classical.not_not] at s_14_0 s_14_1 s_14_2); first | (simp [cq_stall, hs_deep, s_14_0, s_14_1, s_14_2, h1j_s0, hcj_s0]; done) | (simp [cq_stall, hs_deep, s_14_0, s_14_1, eq_true s_14_2, h1j_s0, hcj_s0]; done) | (exfalso; clear hend ; simp_all; done)), rfl⟩ rfl dX11_stall_78
    by_cases s_14_3 : what = 3
    · refine lv_tableIn (off := 65) (tgt := 79) hx hb dX11_stall_14 (by rw [s_14_3]; decide) (by rw [s_14_3]; decide) (by rw [s_14_3]; decide) (by decide) ?_
      refine lv_aload_n hx hb dX11_stall_79 rfl (lv_at hl 0 rfl) ?_
      refine mk_get X w hm hs hin hj_s0 4 (by decide) (List.mem_of_getElem? (i := 5) rfl) (Or.inl rfl) rfl dX11_stall_80 ?_
      exact hend H locs (g (32 + j_s0)) (L, ob_W D f oa C mk im mk ad n g) _ ls w ⟨(by (try simp only [lg_cmp_le, lg_cmp_ge, lg_cmp_lt, lg_cmp_gt, hs_if10, ← Int32.not_lt, ← Int64.not_lt, Classical.not_not] at s_14_0 s_14_1 s_14_2 s_14_3); first | (simp [cq_stall, hs_deep, s_14_0, s_14_1, s_14_2, s_14_3, h1j_s0, hcj_s0]; done) | (simp [cq_stall, hs_deep, s_14_0, s_14_1, s_14_2, eq_true s_14_3, h1j_s0, hcj_s0]; done) | (exfalso; clear hend ; simp_all; done)), rfl⟩ rfl dX11_stall_83
    by_cases s_14_4 : what = 4
    · refine lv_tableIn (off := 70) (tgt := 84) hx hb dX11_stall_14 (by rw [s_14_4]; decide) (by rw [s_14_4]; decide) (by rw [s_14_4]; decide) (by decide) ?_
      refine lv_aload_n hx hb dX11_stall_84 rfl (lv_at hl 0 rfl) ?_
      refine mk_get X w hm hs hin hj_s0 5 (by decide) (List.mem_of_getElem? (i := 6) rfl) (Or.inl rfl) rfl dX11_stall_85 ?_
      exact hend H locs (g (38 + j_s0)) (L, ob_W D f oa C mk im mk ad n g) _ ls w ⟨(by (try simp only [lg_cmp_le, lg_cmp_ge, lg_cmp_lt, lg_cmp_gt, hs_if10, ← Int32.not_lt, ← Int64.not_lt, Classical.not_not] at s_14_0 s_14_1 s_14_2 s_14_3 s_14_4); first | (simp [cq_stall, hs_deep, s_14_0, s_14_1, s_14_2, s_14_3, s_14_4, h1j_s0, hcj_s0]; done) | (simp [cq_stall, hs_deep, s_14_0, s_14_1, s_14_2, s_14_3, eq_true s_14_4, h1j_s0, hcj_s0]; done) | (exfalso; clear hend ; simp_all; done)), rfl⟩ rfl dX11_stall_88
    by_cases s_14_5 : what = 5
    · refine lv_tableIn (off := 75) (tgt := 89) hx hb dX11_stall_14 (by rw [s_14_5]; decide) (by rw [s_14_5]; decide) (by rw [s_14_5]; decide) (by decide) ?_
      refine lv_aload_n hx hb dX11_stall_89 rfl (lv_at hl 0 rfl) ?_
      refine mk_get X w hm hs hin hj_s0 6 (by decide) (List.mem_of_getElem? (i := 7) rfl) (Or.inl rfl) rfl dX11_stall_90 ?_
      refine lv_if_eq (tgt := 100) hx hb dX11_stall_93 (by decide) (fun c_93 => ?_) (fun c_93 => ?_)
      · refine lv_iconst (v := 0) hx hb dX11_stall_100 (by decide) ?_
        exact hend H locs (0) (L, ob_W D f oa C mk im mk ad n g) _ ls w ⟨(by (try simp only [lg_cmp_le, lg_cmp_ge, lg_cmp_lt, lg_cmp_gt, hs_if10, ← Int32.not_lt, ← Int64.not_lt, Classical.not_not] at s_14_0 s_14_1 s_14_2 s_14_3 s_14_4 s_14_5 c_93); first | (simp [cq_stall, hs_deep, s_14_0, s_14_1, s_14_2, s_14_3, s_14_4, s_14_5, c_93, h1j_s0, hcj_s0]; done) | (simp [cq_stall, hs_deep, s_14_0, s_14_1, s_14_2, s_14_3, s_14_4, eq_true s_14_5, eq_true c_93, h1j_s0, hcj_s0]; done) | (exfalso; clear hend ; simp_all; done)), rfl⟩ rfl dX11_stall_101
      · refine lv_iconst (v := 1) hx hb dX11_stall_96 (by decide) ?_
        refine lv_goto (tgt := 101) hx hb dX11_stall_97 (by decide) ?_
        exact hend H locs (1) (L, ob_W D f oa C mk im mk ad n g) _ ls w ⟨(by (try simp only [lg_cmp_le, lg_cmp_ge, lg_cmp_lt, lg_cmp_gt, hs_if10, ← Int32.not_lt, ← Int64.not_lt, Classical.not_not] at s_14_0 s_14_1 s_14_2 s_14_3 s_14_4 s_14_5 c_93); first | (simp [cq_stall, hs_deep, s_14_0, s_14_1, s_14_2, s_14_3, s_14_4, s_14_5, c_93, h1j_s0, hcj_s0]; done) | (simp [cq_stall, hs_deep, s_14_0, s_14_1, s_14_2, s_14_3, s_14_4, eq_true s_14_5, c_93, h1j_s0, hcj_s0]; done) | (exfalso; clear hend ; simp_all; done)), rfl⟩ rfl dX11_stall_101
    by_cases s_14_6 : what = 6
    · refine lv_tableIn (off := 88) (tgt := 102) hx hb dX11_stall_14 (by rw [s_14_6]; decide) (by rw [s_14_6]; decide) (by rw [s_14_6]; decide) (by decide) ?_
      refine lv_aload_n hx hb dX11_stall_102 rfl (lv_at hl 0 rfl) ?_
      refine hg_back (rest := []) (post := fun x u => x = hs_weight g j_s0 ∧ u = (L, mk_F D (ob_F D f oa C mk im) mk ad n g)) w (by
        rcases (show mk_sr g n from hs).2.2.1 j_s0 hj_s0 with hk | hk | hk | hk | hk
        · exact mk_runU (As := []) (C := RX7) (ci := 5) (fs := mk_st g j_s0) X w (c_X6_weight l D b0 L (ob_F D f oa C mk im) mk ad n g hm hs j_s0 hj_s0) (va_cwU 0 hts gX11_stall_X6_weight_u167X7 rfl rfl rfl rfl (by decide +kernel) ⟨Nat.le_of_ble_eq_true rfl, Nat.le_of_ble_eq_true rfl⟩) (hm.2.1 (2 + j_s0) (by omega)).1 ((mk_atS hm hj_s0).trans (by rw [hk]; first | done | rfl)) rfl rfl rfl hl.1 rfl (Nat.le_of_ble_eq_true rfl) dX11_stall_103 ⟨Nat.zero_le _, Nat.zero_le _⟩
        · exact mk_runU (As := []) (C := RX2) (ci := 1) (fs := mk_st g j_s0) X w (c_X6_weight l D b0 L (ob_F D f oa C mk im) mk ad n g hm hs j_s0 hj_s0) (va_cwU 0 hts gX11_stall_X6_weight_u167X2 rfl rfl rfl rfl (by decide +kernel) ⟨Nat.le_of_ble_eq_true rfl, Nat.le_of_ble_eq_true rfl⟩) (hm.2.1 (2 + j_s0) (by omega)).1 ((mk_atS hm hj_s0).trans (by rw [hk]; first | done | rfl)) rfl rfl rfl hl.1 rfl (Nat.le_of_ble_eq_true rfl) dX11_stall_103 ⟨Nat.zero_le _, Nat.zero_le _⟩
        · exact mk_runU (As := []) (C := RX0) (ci := 0) (fs := mk_st g j_s0) X w (c_X6_weight l D b0 L (ob_F D f oa C mk im) mk ad n g hm hs j_s0 hj_s0) (va_cwU 0 hts gX11_stall_X6_weight_u167X0 rfl rfl rfl rfl (by decide +kernel) ⟨Nat.le_of_ble_eq_true rfl, Nat.le_of_ble_eq_true rfl⟩) (hm.2.1 (2 + j_s0) (by omega)).1 ((mk_atS hm hj_s0).trans (by rw [hk]; first | done | rfl)) rfl rfl rfl hl.1 rfl (Nat.le_of_ble_eq_true rfl) dX11_stall_103 ⟨Nat.zero_le _, Nat.zero_le _⟩
        · exact mk_runU (As := []) (C := RX4) (ci := 3) (fs := mk_st g j_s0) X w (c_X6_weight l D b0 L (ob_F D f oa C mk im) mk ad n g hm hs j_s0 hj_s0) (va_cwU 0 hts gX11_stall_X6_weight_u167X4 rfl rfl rfl rfl (by decide +kernel) ⟨Nat.le_of_ble_eq_true rfl, Nat.le_of_ble_eq_true rfl⟩) (hm.2.1 (2 + j_s0) (by omega)).1 ((mk_atS hm hj_s0).trans (by rw [hk]; first | done | rfl)) rfl rfl rfl hl.1 rfl (Nat.le_of_ble_eq_true rfl) dX11_stall_103 ⟨Nat.zero_le _, Nat.zero_le _⟩
        · exact mk_runU (As := []) (C := RX10) (ci := 8) (fs := mk_st g j_s0) X w (c_X6_weight l D b0 L (ob_F D f oa C mk im) mk ad n g hm hs j_s0 hj_s0) (va_cwU 0 hts gX11_stall_X6_weight_u167X10 rfl rfl rfl rfl (by decide +kernel) ⟨Nat.le_of_ble_eq_true rfl, Nat.le_of_ble_eq_true rfl⟩) (hm.2.1 (2 + j_s0) (by omega)).1 ((mk_atS hm hj_s0).trans (by rw [hk]; first | done | rfl)) rfl rfl rfl hl.1 rfl (Nat.le_of_ble_eq_true rfl) dX11_stall_103 ⟨Nat.zero_le _, Nat.zero_le _⟩) (fun r0 u0 H locs hp w => ?_)
      obtain ⟨rfl, rfl⟩ := hp
      have w : hg_W D b0 L (mk_F D (ob_F D f oa C mk im) mk ad n g) s.heap H locs := w
      exact hend H locs (hs_weight g j_s0) (L, ob_W D f oa C mk im mk ad n g) _ ls w ⟨(by (try simp only [lg_cmp_le, lg_cmp_ge, lg_cmp_lt, lg_cmp_gt, hs_if10, ← Int32.not_lt, ← Int64.not_lt, Classical.not_not] at s_14_0 s_14_1 s_14_2 s_14_3 s_14_4 s_14_5 s_14_6); first | (simp [cq_stall, hs_deep, s_14_0, s_14_1, s_14_2, s_14_3, s_14_4, s_14_5, s_14_6, h1j_s0, hcj_s0]; done) | (simp [cq_stall, hs_deep, s_14_0, s_14_1, s_14_2, s_14_3, s_14_4, s_14_5, eq_true s_14_6, h1j_s0, hcj_s0]; done) | (exfalso; clear hend ; simp_all; done)), rfl⟩ rfl dX11_stall_106
    by_cases s_14_7 : what = 7
    · refine lv_tableIn (off := 93) (tgt := 107) hx hb dX11_stall_14 (by rw [s_14_7]; decide) (by rw [s_14_7]; decide) (by rw [s_14_7]; decide) (by decide) ?_
      refine lv_aload_n hx hb dX11_stall_107 rfl (lv_at hl 1 rfl) ?_
      refine ob_get X w ho 0 (by decide) (C0 := RX11) (T := TX11) (N := 12) (ci := 9) rfl hin11 rfl 9 (by decide) (List.mem_of_getElem? (i := 8) rfl) rfl rfl dX11_stall_108 ?_
      refine lv_aload_n hx hb dX11_stall_111 rfl (lv_at hl 0 rfl) ?_
      refine mk_get X w hm hs hin hj_s0 1 (by decide) (List.mem_of_getElem? (i := 2) rfl) (Or.inl rfl) rfl dX11_stall_112 ?_
      refine lv_aload_n hx hb dX11_stall_115 rfl (lv_at hl 0 rfl) ?_
      refine mk_get X w hm hs hin hj_s0 2 (by decide) (List.mem_of_getElem? (i := 3) rfl) (Or.inl rfl) rfl dX11_stall_116 ?_
      refine hg_viF (r := (hs_depth g n (g (14 + j_s0)) (g (20 + j_s0)))) (As := [.int (g (14 + j_s0)), .int (g (20 + j_s0))]) (rest := []) X w (c_X3_depth l D b0 L (ob_F D f oa C mk im) mk ad n g hm hs nr ht (g (14 + j_s0)) (g (20 + j_s0))) (cwV 2 hts gX11_stall_X3_depth rfl rfl rfl hdX3_depth ⟨Nat.le_of_ble_eq_true rfl, Nat.le_of_ble_eq_true rfl⟩) hm.1 (mk_at0 D _ mk ad n _) rfl rfl rfl hl.1 rfl (Nat.le_of_ble_eq_true rfl) dX11_stall_119 ⟨Nat.zero_le _, Nat.zero_le _⟩ (fun H locs w => ?_)
      exact hend H locs ((hs_depth g n (g (14 + j_s0)) (g (20 + j_s0)))) (L, ob_W D f oa C mk im mk ad n g) _ ls w ⟨(by (try simp only [lg_cmp_le, lg_cmp_ge, lg_cmp_lt, lg_cmp_gt, hs_if10, ← Int32.not_lt, ← Int64.not_lt, Classical.not_not] at s_14_0 s_14_1 s_14_2 s_14_3 s_14_4 s_14_5 s_14_6 s_14_7); first | (simp [cq_stall, hs_deep, s_14_0, s_14_1, s_14_2, s_14_3, s_14_4, s_14_5, s_14_6, s_14_7, h1j_s0, hcj_s0]; done) | (simp [cq_stall, hs_deep, s_14_0, s_14_1, s_14_2, s_14_3, s_14_4, s_14_5, s_14_6, eq_true s_14_7, h1j_s0, hcj_s0]; done) | (exfalso; clear hend ; simp_all; done)), rfl⟩ rfl dX11_stall_122
    by_cases s_14_8 : what = 8
    · refine lv_tableIn (off := 109) (tgt := 123) hx hb dX11_stall_14 (by rw [s_14_8]; decide) (by rw [s_14_8]; decide) (by rw [s_14_8]; decide) (by decide) ?_
      refine lv_aload_n hx hb dX11_stall_123 rfl (lv_at hl 1 rfl) ?_
      refine ob_get X w ho 0 (by decide) (C0 := RX11) (T := TX11) (N := 12) (ci := 9) rfl hin11 rfl 9 (by decide) (List.mem_of_getElem? (i := 8) rfl) rfl rfl dX11_stall_124 ?_
      refine lv_aload_n hx hb dX11_stall_127 rfl (lv_at hl 0 rfl) ?_
      refine hg_viF (r := (hs_price g n j_s0)) (As := [.ref (ad (2 + j_s0))]) (rest := []) X w (c_X3_price l D b0 L (ob_F D f oa C mk im) mk ad n g hm hs nr ht j_s0 hj_s0) (cwV 1 hts gX11_stall_X3_price rfl rfl rfl hdX3_price ⟨Nat.le_of_ble_eq_true rfl, Nat.le_of_ble_eq_true rfl⟩) hm.1 (mk_at0 D _ mk ad n _) rfl rfl rfl hl.1 rfl (Nat.le_of_ble_eq_true rfl) dX11_stall_128 ⟨Nat.zero_le _, Nat.zero_le _⟩ (fun H locs w => ?_)
      exact hend H locs ((hs_price g n j_s0)) (L, ob_W D f oa C mk im mk ad n g) _ ls w ⟨(by (try simp only [lg_cmp_le, lg_cmp_ge, lg_cmp_lt, lg_cmp_gt, hs_if10, ← Int32.not_lt, ← Int64.not_lt, Classical.not_not] at s_14_0 s_14_1 s_14_2 s_14_3 s_14_4 s_14_5 s_14_6 s_14_7 s_14_8); first | (simp [cq_stall, hs_deep, s_14_0, s_14_1, s_14_2, s_14_3, s_14_4, s_14_5, s_14_6, s_14_7, s_14_8, h1j_s0, hcj_s0]; done) | (simp [cq_stall, hs_deep, s_14_0, s_14_1, s_14_2, s_14_3, s_14_4, s_14_5, s_14_6, s_14_7, eq_true s_14_8, h1j_s0, hcj_s0]; done) | (exfalso; clear hend ; simp_all; done)), rfl⟩ rfl dX11_stall_131
    refine lv_tableOut (tgt := 132) hx hb dX11_stall_14 (by have t0 := lv_neT s_14_0 (a := 0) (by decide); have t1 := lv_neT s_14_1 (a := 1) (by decide); have t2 := lv_neT s_14_2 (a := 2) (by decide); have t3 := lv_neT s_14_3 (a := 3) (by decide); have t4 := lv_neT s_14_4 (a := 4) (by decide); have t5 := lv_neT s_14_5 (a := 5) (by decide); have t6 := lv_neT s_14_6 (a := 6) (by decide); have t7 := lv_neT s_14_7 (a := 7) (by decide); have t8 := lv_neT s_14_8 (a := 8) (by decide); omega) (by decide) ?_
    refine lv_ldc (v := (-1000001)) hx hb hown (hts _ (List.mem_of_getElem? (i := 1) rfl)) dX11_stall_132 ?_
    exact hend H locs ((-1000001)) (L, ob_W D f oa C mk im mk ad n g) _ ls w ⟨(by (try simp only [lg_cmp_le, lg_cmp_ge, lg_cmp_lt, lg_cmp_gt, hs_if10, ← Int32.not_lt, ← Int64.not_lt, Classical.not_not] at s_14_0 s_14_1 s_14_2 s_14_3 s_14_4 s_14_5 s_14_6 s_14_7 s_14_8); first | (simp [cq_stall, hs_deep, s_14_0, s_14_1, s_14_2, s_14_3, s_14_4, s_14_5, s_14_6, s_14_7, s_14_8, h1j_s0, hcj_s0]; done) | (simp [cq_stall, hs_deep, s_14_0, s_14_1, s_14_2, s_14_3, s_14_4, s_14_5, s_14_6, s_14_7, s_14_8, h1j_s0, hcj_s0]; done) | (exfalso; clear hend ; simp_all; done)), rfl⟩ rfl dX11_stall_134
theorem hdX11_numberOf : yX11_numberOf.cls ≠ "java/lang/invoke/MethodHandle" ∧ yX11_numberOf.cls ≠ "java/lang/invoke/VarHandle" ∧ (parseMethodDescriptor yX11_numberOf.desc).map (fun d => d.parameters.length) = some 1 := by decide +kernel
set_option maxRecDepth 100000 in
set_option maxHeartbeats 4000000 in
theorem c_X11_rope (l : Launch) (D : va_G) (b0 : Nat) (L : List Nat) (f : Nat → va_E) (oa : Nat → Nat) (C : Nat → Nat → Int32) (im : Nat → Option Nat) (mk : Nat) (ad : Nat → Nat) (n : Nat) (g : Nat → Int32) (hm : mk_ok L mk ad n) (hs : mk_sr g n) (ho : ob_ok L oa mk ad n) (nr : Nat) (ht : mk_t g nr) (rope place what : Int32) : hg_Fi l yX11_rope wsX11_rope ({ frames := 4, cells := 0, slots := 0, locals := 90 }) D b0 L (ob_W D f oa C mk im mk ad n g) [.ref (oa 0), .int (rope), .int (place), .int (what)] (cq_rope g n rope place what) (ob_W D f oa C mk im mk ad n g) := by
  refine hg_in_i (cc := cX11_rope) (nL := 4) (by decide) rfl (Nat.le_of_ble_eq_true rfl) (fun p e s m args below meth c R Q X hR hend H locs ls w hl => ?_)
  subst hR
  obtain ⟨hx, hb, hml, hown, hts⟩ := id X.1
  have hin : mk_in wsX11_rope := ⟨fun w h => List.mem_cons_of_mem _ (List.mem_append_left _ (List.mem_append_left _ (List.mem_append_left _ (List.mem_append_left _ (List.mem_append_right _ h))))), fun w h => List.mem_cons_of_mem _ (List.mem_append_left _ (List.mem_append_left _ (List.mem_append_left _ (List.mem_append_right _ h)))), fun w h => List.mem_cons_of_mem _ (List.mem_append_left _ (List.mem_append_left _ (List.mem_append_right _ h))), fun w h => List.mem_cons_of_mem _ (List.mem_append_left _ (List.mem_append_right _ h)), fun w h => List.mem_cons_of_mem _ (List.mem_append_right _ h)⟩
  have hin3 : ∀ w ∈ wsX30, w ∈ wsX11_rope := fun w h => List.mem_cons_of_mem _ (List.mem_append_left _ (List.mem_append_left _ (List.mem_append_left _ (List.mem_append_left _ (List.mem_append_left _ (List.mem_append_right _ h))))))
  have hin11 : ∀ w ∈ wsX110, w ∈ wsX11_rope := fun w h => List.mem_cons_of_mem _ (List.mem_append_left _ (List.mem_append_left _ (List.mem_append_left _ (List.mem_append_left _ (List.mem_append_left _ (List.mem_append_left _ (List.mem_append_right _ h)))))))
  have hl : lv_has ls 4 [(0, .ref (oa 0)), (1, .int (rope)), (2, .int (place)), (3, .int (what))] := hl
  have hn6 := hs.2.1
  refine lv_aload_n hx hb dX11_rope_0 rfl (lv_at hl 0 rfl) ?_
  refine lv_iload_n hx hb dX11_rope_1 rfl (lv_at hl 1 rfl) ?_
  refine hg_viF (r := (if hs_isRo g rope = 0 then 1 else 0)) (As := [.int (rope)]) (rest := []) X w (c_X11_noRope l D b0 L f oa C im mk ad n g hm hs ho nr ht rope) (cwV 1 hts gX11_rope_X11_noRope rfl rfl rfl hdX11_noRope ⟨Nat.le_of_ble_eq_true rfl, Nat.le_of_ble_eq_true rfl⟩) (ho.1 0 (by decide)).1 (ow_at ho (k := 0) (by decide)) rfl rfl rfl hl.1 rfl (Nat.le_of_ble_eq_true rfl) dX11_rope_2 ⟨Nat.zero_le _, Nat.zero_le _⟩ (fun H locs w => ?_)
  refine lv_if_ne (tgt := 15) hx hb dX11_rope_5 (by decide) (fun c_5 => ?_) (fun c_5 => ?_)
  · refine lv_ldc (v := (-1000001)) hx hb hown (hts _ (List.mem_of_getElem? (i := 1) rfl)) dX11_rope_15 ?_
    exact hend H locs ((-1000001)) (L, ob_W D f oa C mk im mk ad n g) _ ls w ⟨(by (try simp only [lg_cmp_le, lg_cmp_ge, lg_cmp_lt, lg_cmp_gt, hs_if10, ← Int32.not_lt, ← Int64.not_lt, Classical.not_not] at c_5); first | (simp [cq_rope, c_5]; done) | (simp [cq_rope, c_5]; done) | (exfalso; clear hend ; simp_all; done)), rfl⟩ rfl dX11_rope_17
  · obtain ⟨r, hr, rfl⟩ := hs_ro_1 (mk_ok_of hs ht) (hs_if0 c_5)
    have hnr := ht.2.1
    have hro1 := cs_ro_1 ht hr
    have hcr : (nI r).toNatClampNeg = r := nI_clamp (by omega)
    refine lv_iload_n hx hb dX11_rope_8 rfl (lv_at hl 2 rfl) ?_
    refine hg_siF (r := (if hs_in place 1 8 = 0 then 1 else 0)) (As := [.int (place)]) (rest := []) X w (c_X11_noPlace l D b0 L f oa C im mk ad n g hm hs ho place) (va_cwS 1 hts gX11_rope_X11_noPlace rfl rfl rfl hdX11_noPlace ⟨Nat.le_of_ble_eq_true rfl, Nat.le_of_ble_eq_true rfl⟩) rfl hl.1 rfl (Nat.le_of_ble_eq_true rfl) dX11_rope_9 ⟨Nat.zero_le _, Nat.zero_le _⟩ (fun H locs w => ?_)
    refine lv_if_eq (tgt := 18) hx hb dX11_rope_12 (by decide) (fun c_12 => ?_) (fun c_12 => ?_)
    · refine lv_iload_n hx hb dX11_rope_18 rfl (lv_at hl 3 rfl) ?_
      by_cases s_19_0 : what = 0
      · refine lv_tableIn (off := 29) (tgt := 48) hx hb dX11_rope_19 (by rw [s_19_0]; decide) (by rw [s_19_0]; decide) (by rw [s_19_0]; decide) (by decide) ?_
        refine lv_aload_n hx hb dX11_rope_48 rfl (lv_at hl 0 rfl) ?_
        refine ob_get X w ho 0 (by decide) (C0 := RX11) (T := TX11) (N := 12) (ci := 9) rfl hin11 rfl 9 (by decide) (List.mem_of_getElem? (i := 2) rfl) rfl rfl dX11_rope_49 ?_
        refine lv_iload_n hx hb dX11_rope_52 rfl (lv_at hl 1 rfl) ?_
        refine lv_iload_n hx hb dX11_rope_53 rfl (lv_at hl 2 rfl) ?_
        refine hg_viF (r := (hs_sag g n (nI r) place)) (As := [.int (nI r), .int (place)]) (rest := []) X w (c_X3_sag l D b0 L (ob_F D f oa C mk im) mk ad n g hm hs nr ht (nI r) place) (cwV 2 hts gX11_rope_X3_sag rfl rfl rfl hdX3_sag ⟨Nat.le_of_ble_eq_true rfl, Nat.le_of_ble_eq_true rfl⟩) hm.1 (mk_at0 D _ mk ad n _) rfl rfl rfl hl.1 rfl (Nat.le_of_ble_eq_true rfl) dX11_rope_54 ⟨Nat.zero_le _, Nat.zero_le _⟩ (fun H locs w => ?_)
        exact hend H locs ((hs_sag g n (nI r) place)) (L, ob_W D f oa C mk im mk ad n g) _ ls w ⟨(by (try simp only [lg_cmp_le, lg_cmp_ge, lg_cmp_lt, lg_cmp_gt, hs_if10, ← Int32.not_lt, ← Int64.not_lt, Classical.not_not] at c_5 c_12 s_19_0); first | (simp [cq_rope, c_5, c_12, s_19_0, hro1, hcr]; done) | (simp [cq_rope, eq_true c_5, eq_true c_12, eq_true s_19_0, hro1, hcr]; done) | (exfalso; clear hend ; simp_all; done)), rfl⟩ rfl dX11_rope_57
      by_cases s_19_1 : what = 1
      · refine lv_tableIn (off := 39) (tgt := 58) hx hb dX11_rope_19 (by rw [s_19_1]; decide) (by rw [s_19_1]; decide) (by rw [s_19_1]; decide) (by decide) ?_
        refine lv_aload_n hx hb dX11_rope_58 rfl (lv_at hl 0 rfl) ?_
        refine ob_get X w ho 0 (by decide) (C0 := RX11) (T := TX11) (N := 12) (ci := 9) rfl hin11 rfl 9 (by decide) (List.mem_of_getElem? (i := 2) rfl) rfl rfl dX11_rope_59 ?_
        refine lv_iload_n hx hb dX11_rope_62 rfl (lv_at hl 1 rfl) ?_
        refine lv_iload_n hx hb dX11_rope_63 rfl (lv_at hl 2 rfl) ?_
        refine hg_viF (r := (hs_depth g n (nI r) place)) (As := [.int (nI r), .int (place)]) (rest := []) X w (c_X3_depth l D b0 L (ob_F D f oa C mk im) mk ad n g hm hs nr ht (nI r) place) (cwV 2 hts gX11_rope_X3_depth rfl rfl rfl hdX3_depth ⟨Nat.le_of_ble_eq_true rfl, Nat.le_of_ble_eq_true rfl⟩) hm.1 (mk_at0 D _ mk ad n _) rfl rfl rfl hl.1 rfl (Nat.le_of_ble_eq_true rfl) dX11_rope_64 ⟨Nat.zero_le _, Nat.zero_le _⟩ (fun H locs w => ?_)
        exact hend H locs ((hs_depth g n (nI r) place)) (L, ob_W D f oa C mk im mk ad n g) _ ls w ⟨(by (try simp only [lg_cmp_le, lg_cmp_ge, lg_cmp_lt, lg_cmp_gt, hs_if10, ← Int32.not_lt, ← Int64.not_lt, Classical.not_not] at c_5 c_12 s_19_0 s_19_1); first | (simp [cq_rope, c_5, c_12, s_19_0, s_19_1, hro1, hcr]; done) | (simp [cq_rope, eq_true c_5, eq_true c_12, s_19_0, eq_true s_19_1, hro1, hcr]; done) | (exfalso; clear hend ; simp_all; done)), rfl⟩ rfl dX11_rope_67
      by_cases s_19_2 : what = 2
      · refine lv_tableIn (off := 49) (tgt := 68) hx hb dX11_rope_19 (by rw [s_19_2]; decide) (by rw [s_19_2]; decide) (by rw [s_19_2]; decide) (by decide) ?_
        refine lv_aload_n hx hb dX11_rope_68 rfl (lv_at hl 0 rfl) ?_
        refine ob_get X w ho 0 (by decide) (C0 := RX11) (T := TX11) (N := 12) (ci := 9) rfl hin11 rfl 9 (by decide) (List.mem_of_getElem? (i := 2) rfl) rfl rfl dX11_rope_69 ?_
        refine mk_getM X w hm hin3 4 (by decide) (List.mem_of_getElem? (i := 3) rfl) rfl dX11_rope_72 ?_
        refine lv_iload_n hx hb dX11_rope_75 rfl (lv_at hl 1 rfl) ?_
        refine mk_taut X w hm r rfl (by omega) dX11_rope_76 ?_
        exact hend H locs (g (5 + r)) (L, ob_W D f oa C mk im mk ad n g) _ ls w ⟨(by (try simp only [lg_cmp_le, lg_cmp_ge, lg_cmp_lt, lg_cmp_gt, hs_if10, ← Int32.not_lt, ← Int64.not_lt, Classical.not_not] at c_5 c_12 s_19_0 s_19_1 s_19_2); first | (simp [cq_rope, c_5, c_12, s_19_0, s_19_1, s_19_2, hro1, hcr]; done) | (simp [cq_rope, eq_true c_5, eq_true c_12, s_19_0, s_19_1, eq_true s_19_2, hro1, hcr]; done) | (exfalso; clear hend ; simp_all; done)), rfl⟩ rfl dX11_rope_77
      by_cases s_19_3 : what = 3
      · refine lv_tableIn (off := 59) (tgt := 78) hx hb dX11_rope_19 (by rw [s_19_3]; decide) (by rw [s_19_3]; decide) (by rw [s_19_3]; decide) (by decide) ?_
        refine lv_aload_n hx hb dX11_rope_78 rfl (lv_at hl 0 rfl) ?_
        refine ob_get X w ho 0 (by decide) (C0 := RX11) (T := TX11) (N := 12) (ci := 9) rfl hin11 rfl 9 (by decide) (List.mem_of_getElem? (i := 2) rfl) rfl rfl dX11_rope_79 ?_
        refine lv_iload_n hx hb dX11_rope_82 rfl (lv_at hl 1 rfl) ?_
        refine lv_iload_n hx hb dX11_rope_83 rfl (lv_at hl 2 rfl) ?_
        refine hg_vqF (r := (mk_std g (nI r) place n).map (fun j => ad (2 + j))) (As := [.int (nI r), .int (place)]) (rest := []) X w (c_X3_standing l D b0 L (ob_F D f oa C mk im) mk ad n g hm hs (nI r) place) (cwV 2 hts gX11_rope_X3_standing rfl rfl rfl hdX3_standing ⟨Nat.le_of_ble_eq_true rfl, Nat.le_of_ble_eq_true rfl⟩) (hm.1) (mk_at0 D _ mk ad n _) rfl rfl rfl hl.1 rfl (Nat.le_of_ble_eq_true rfl) dX11_rope_84 ⟨Nat.zero_le _, Nat.zero_le _⟩ (fun H locs w => ?_)
        refine mk_qk (ad := ad) (fun hq84 => ?_) (fun jq84 hq84 => ?_)
        · refine hg_siF (r := hs_NONE) (As := [.null]) (rest := []) X w (c_X11_numberOf_n l D b0 L f oa C im mk ad n g hm hs ho) (va_cwS 1 hts gX11_rope_X11_numberOf rfl rfl rfl hdX11_numberOf ⟨Nat.le_of_ble_eq_true rfl, Nat.le_of_ble_eq_true rfl⟩) rfl hl.1 rfl (Nat.le_of_ble_eq_true rfl) dX11_rope_87 ⟨Nat.zero_le _, Nat.zero_le _⟩ (fun H locs w => ?_)
          exact hend H locs (hs_NONE) (L, ob_W D f oa C mk im mk ad n g) _ ls w ⟨(by (try simp only [lg_cmp_le, lg_cmp_ge, lg_cmp_lt, lg_cmp_gt, hs_if10, ← Int32.not_lt, ← Int64.not_lt, Classical.not_not] at c_5 c_12 s_19_0 s_19_1 s_19_2 s_19_3); first | (simp [cq_rope, cq_std_n hq84, c_5, c_12, s_19_0, s_19_1, s_19_2, s_19_3, hro1, hcr]; done) | (simp [cq_rope, cq_std_n hq84, eq_true c_5, eq_true c_12, s_19_0, s_19_1, s_19_2, eq_true s_19_3, hro1, hcr]; done) | (exfalso; clear hend ; simp_all; done)), rfl⟩ rfl dX11_rope_90
        · have hjq84 : jq84 < n := mk_std_lt hq84
          refine hg_siF (r := (nI jq84)) (As := [.ref (ad (2 + jq84))]) (rest := []) X w (c_X11_numberOf_s l D b0 L f oa C im mk ad n g hm hs ho jq84 hjq84) (va_cwS 1 hts gX11_rope_X11_numberOf rfl rfl rfl hdX11_numberOf ⟨Nat.le_of_ble_eq_true rfl, Nat.le_of_ble_eq_true rfl⟩) rfl hl.1 rfl (Nat.le_of_ble_eq_true rfl) dX11_rope_87 ⟨Nat.zero_le _, Nat.zero_le _⟩ (fun H locs w => ?_)
          exact hend H locs ((nI jq84)) (L, ob_W D f oa C mk im mk ad n g) _ ls w ⟨(by (try simp only [lg_cmp_le, lg_cmp_ge, lg_cmp_lt, lg_cmp_gt, hs_if10, ← Int32.not_lt, ← Int64.not_lt, Classical.not_not] at c_5 c_12 s_19_0 s_19_1 s_19_2 s_19_3); first | (simp [cq_rope, cq_std_s hq84, c_5, c_12, s_19_0, s_19_1, s_19_2, s_19_3, hro1, hcr]; done) | (simp [cq_rope, cq_std_s hq84, eq_true c_5, eq_true c_12, s_19_0, s_19_1, s_19_2, eq_true s_19_3, hro1, hcr]; done) | (exfalso; clear hend ; simp_all; done)), rfl⟩ rfl dX11_rope_90
      refine lv_tableOut (tgt := 91) hx hb dX11_rope_19 (by have t0 := lv_neT s_19_0 (a := 0) (by decide); have t1 := lv_neT s_19_1 (a := 1) (by decide); have t2 := lv_neT s_19_2 (a := 2) (by decide); have t3 := lv_neT s_19_3 (a := 3) (by decide); omega) (by decide) ?_
      refine lv_ldc (v := (-1000001)) hx hb hown (hts _ (List.mem_of_getElem? (i := 1) rfl)) dX11_rope_91 ?_
      exact hend H locs ((-1000001)) (L, ob_W D f oa C mk im mk ad n g) _ ls w ⟨(by (try simp only [lg_cmp_le, lg_cmp_ge, lg_cmp_lt, lg_cmp_gt, hs_if10, ← Int32.not_lt, ← Int64.not_lt, Classical.not_not] at c_5 c_12 s_19_0 s_19_1 s_19_2 s_19_3); first | (simp [cq_rope, c_5, c_12, s_19_0, s_19_1, s_19_2, s_19_3, hro1, hcr]; done) | (simp [cq_rope, eq_true c_5, eq_true c_12, s_19_0, s_19_1, s_19_2, s_19_3, hro1, hcr]; done) | (exfalso; clear hend ; simp_all; done)), rfl⟩ rfl dX11_rope_93
    · refine lv_ldc (v := (-1000001)) hx hb hown (hts _ (List.mem_of_getElem? (i := 1) rfl)) dX11_rope_15 ?_
      exact hend H locs ((-1000001)) (L, ob_W D f oa C mk im mk ad n g) _ ls w ⟨(by (try simp only [lg_cmp_le, lg_cmp_ge, lg_cmp_lt, lg_cmp_gt, hs_if10, ← Int32.not_lt, ← Int64.not_lt, Classical.not_not] at c_5 c_12); first | (simp [cq_rope, c_5, c_12, hro1, hcr]; done) | (simp [cq_rope, eq_true c_5, c_12, hro1, hcr]; done) | (exfalso; clear hend ; simp_all; done)), rfl⟩ rfl dX11_rope_17
theorem hdX3_dropping : yX3_dropping.cls = RX3 ∧ yX3_dropping.cls ≠ "java/lang/invoke/MethodHandle" ∧ yX3_dropping.cls ≠ "java/lang/invoke/VarHandle" ∧ (parseMethodDescriptor yX3_dropping.desc).map (fun d => d.parameters.length) = some 0 := by decide +kernel
set_option maxRecDepth 100000 in
set_option maxHeartbeats 4000000 in
theorem c_X11_drops (l : Launch) (D : va_G) (b0 : Nat) (L : List Nat) (f : Nat → va_E) (oa : Nat → Nat) (C : Nat → Nat → Int32) (im : Nat → Option Nat) (mk : Nat) (ad : Nat → Nat) (n : Nat) (g : Nat → Int32) (hm : mk_ok L mk ad n) (hs : mk_sr g n) (ho : ob_ok L oa mk ad n) (nr : Nat) (ht : mk_t g nr) : hg_Fi l yX11_drops wsX11_drops ({ frames := 5, cells := 0, slots := 0, locals := 115 }) D b0 L (ob_W D f oa C mk im mk ad n g) [.ref (oa 0)] (cq_drops g n) (ob_W D f oa C mk im mk ad n g) := by
  refine hg_in_i (cc := cX11_drops) (nL := 1) (by decide) rfl (Nat.le_of_ble_eq_true rfl) (fun p e s m args below meth c R Q X hR hend H locs ls w hl => ?_)
  subst hR
  obtain ⟨hx, hb, hml, hown, hts⟩ := id X.1
  have hin : mk_in wsX11_drops := ⟨fun w h => List.mem_cons_of_mem _ (List.mem_append_left _ (List.mem_append_left _ (List.mem_append_left _ (List.mem_append_left _ (List.mem_append_right _ h))))), fun w h => List.mem_cons_of_mem _ (List.mem_append_left _ (List.mem_append_left _ (List.mem_append_left _ (List.mem_append_right _ h)))), fun w h => List.mem_cons_of_mem _ (List.mem_append_left _ (List.mem_append_left _ (List.mem_append_right _ h))), fun w h => List.mem_cons_of_mem _ (List.mem_append_left _ (List.mem_append_right _ h)), fun w h => List.mem_cons_of_mem _ (List.mem_append_right _ h)⟩
  have hin3 : ∀ w ∈ wsX30, w ∈ wsX11_drops := fun w h => List.mem_cons_of_mem _ (List.mem_append_left _ (List.mem_append_left _ (List.mem_append_left _ (List.mem_append_left _ (List.mem_append_left _ (List.mem_append_right _ h))))))
  have hin11 : ∀ w ∈ wsX110, w ∈ wsX11_drops := fun w h => List.mem_cons_of_mem _ (List.mem_append_left _ (List.mem_append_left _ (List.mem_append_left _ (List.mem_append_left _ (List.mem_append_left _ (List.mem_append_left _ (List.mem_append_right _ h)))))))
  have hl : lv_has ls 1 [(0, .ref (oa 0))] := hl
  have hn6 := hs.2.1
  refine lv_aload_n hx hb dX11_drops_0 rfl (lv_at hl 0 rfl) ?_
  refine hg_viF (r := (if g 2 = 0 then 1 else 0)) (As := []) (rest := []) X w (c_X11_noMarket l D b0 L f oa C im mk ad n g hm hs ho ) (cwV 0 hts gX11_drops_X11_noMarket rfl rfl rfl hdX11_noMarket ⟨Nat.le_of_ble_eq_true rfl, Nat.le_of_ble_eq_true rfl⟩) (ho.1 0 (by decide)).1 (ow_at ho (k := 0) (by decide)) rfl rfl rfl hl.1 rfl (Nat.le_of_ble_eq_true rfl) dX11_drops_1 ⟨Nat.zero_le _, Nat.zero_le _⟩ (fun H locs w => ?_)
  refine lv_if_eq (tgt := 12) hx hb dX11_drops_4 (by decide) (fun c_4 => ?_) (fun c_4 => ?_)
  · refine lv_aload_n hx hb dX11_drops_12 rfl (lv_at hl 0 rfl) ?_
    refine ob_get X w ho 0 (by decide) (C0 := RX11) (T := TX11) (N := 12) (ci := 9) rfl hin11 rfl 9 (by decide) (List.mem_of_getElem? (i := 2) rfl) rfl rfl dX11_drops_13 ?_
    refine hg_viF (r := (hs_drop g n n)) (As := []) (rest := []) X w (c_X3_dropping l D b0 L (ob_F D f oa C mk im) mk ad n g hm hs nr ht ) (cwV 0 hts gX11_drops_X3_dropping rfl rfl rfl hdX3_dropping ⟨Nat.le_of_ble_eq_true rfl, Nat.le_of_ble_eq_true rfl⟩) hm.1 (mk_at0 D _ mk ad n _) rfl rfl rfl hl.1 rfl (Nat.le_of_ble_eq_true rfl) dX11_drops_16 ⟨Nat.zero_le _, Nat.zero_le _⟩ (fun H locs w => ?_)
    exact hend H locs ((hs_drop g n n)) (L, ob_W D f oa C mk im mk ad n g) _ ls w ⟨(by (try simp only [lg_cmp_le, lg_cmp_ge, lg_cmp_lt, lg_cmp_gt, hs_if10, ← Int32.not_lt, ← Int64.not_lt, Classical.not_not] at c_4); first | (simp [cq_drops, c_4]; done) | (simp [cq_drops, eq_true c_4]; done) | (exfalso; clear hend ; simp_all; done)), rfl⟩ rfl dX11_drops_19
  · refine lv_ldc (v := (-1000002)) hx hb hown (hts _ (List.mem_of_getElem? (i := 1) rfl)) dX11_drops_7 ?_
    refine lv_goto (tgt := 19) hx hb dX11_drops_9 (by decide) ?_
    exact hend H locs ((-1000002)) (L, ob_W D f oa C mk im mk ad n g) _ ls w ⟨(by (try simp only [lg_cmp_le, lg_cmp_ge, lg_cmp_lt, lg_cmp_gt, hs_if10, ← Int32.not_lt, ← Int64.not_lt, Classical.not_not] at c_4); first | (simp [cq_drops, c_4]; done) | (simp [cq_drops, c_4]; done) | (exfalso; clear hend ; simp_all; done)), rfl⟩ rfl dX11_drops_19
theorem hdX11_isOfKind : yX11_isOfKind.cls ≠ "java/lang/invoke/MethodHandle" ∧ yX11_isOfKind.cls ≠ "java/lang/invoke/VarHandle" ∧ (parseMethodDescriptor yX11_isOfKind.desc).map (fun d => d.parameters.length) = some 2 := by decide +kernel
set_option maxRecDepth 100000 in
set_option maxHeartbeats 4000000 in
theorem c_X11_as (l : Launch) (D : va_G) (b0 : Nat) (L : List Nat) (f : Nat → va_E) (oa : Nat → Nat) (C : Nat → Nat → Int32) (im : Nat → Option Nat) (mk : Nat) (ad : Nat → Nat) (n : Nat) (g : Nat → Int32) (hm : mk_ok L mk ad n) (hs : mk_sr g n) (ho : ob_ok L oa mk ad n) (one kind : Int32) : hg_Fi l yX11_as wsX11_as ({ frames := 1, cells := 0, slots := 0, locals := 21 }) D b0 L (ob_W D f oa C mk im mk ad n g) [.ref (oa 0), .int (one), .int (kind)] ((cs_as C g one kind).1) (ob_W D f oa ((cs_as C g one kind).2) mk im mk ad n g) := by
  refine hg_in_i (cc := cX11_as) (nL := 4) (by decide) rfl (Nat.le_of_ble_eq_true rfl) (fun p e s m args below meth c R Q X hR hend H locs ls w hl => ?_)
  subst hR
  obtain ⟨hx, hb, hml, hown, hts⟩ := id X.1
  have hin3 : ∀ w ∈ wsX30, w ∈ wsX11_as := fun w h => List.mem_cons_of_mem _ (List.mem_append_right _ h)
  have hin11 : ∀ w ∈ wsX110, w ∈ wsX11_as := fun w h => List.mem_cons_of_mem _ (List.mem_append_left _ (List.mem_append_right _ h))
  have hl : lv_has ls 4 [(0, .ref (oa 0)), (1, .int (one)), (2, .int (kind))] := hl
  have hn6 := hs.2.1
  refine lv_aload_n hx hb dX11_as_0 rfl (lv_at hl 0 rfl) ?_
  refine lv_iload_n hx hb dX11_as_1 rfl (lv_at hl 1 rfl) ?_
  refine hg_vqF (r := cs_sa ad g one) (As := [.int (one)]) (rest := []) X w (c_X11_stallAt l D b0 L f oa C im mk ad n g hm hs ho one) (cwV 1 hts gX11_as_X11_stallAt rfl rfl rfl hdX11_stallAt ⟨Nat.le_of_ble_eq_true rfl, Nat.le_of_ble_eq_true rfl⟩) (ho.1 0 (by decide)).1 (ow_at ho (k := 0) (by decide)) rfl rfl rfl hl.1 rfl (Nat.le_of_ble_eq_true rfl) dX11_as_2 ⟨Nat.zero_le _, Nat.zero_le _⟩ (fun H locs w => ?_)
  refine ob_qs hs (fun hz_one => ?_) (fun j_one hj_one e_one => ?_)
  · refine lv_astore_nN (lv' := [(3, .null), (0, .ref (oa 0)), (1, .int (one)), (2, .int (kind))]) hx hb dX11_as_5 rfl hl (by decide) rfl (fun ls hl => ?_)
    refine lv_aload_nN hx hb dX11_as_6 rfl (lv_at hl 0 rfl) ?_
    refine lv_ifnullN (tgt := 19) hx hb dX11_as_7 (by decide) ?_
    refine lv_ldc (v := (-1000001)) hx hb hown (hts _ (List.mem_of_getElem? (i := 1) rfl)) dX11_as_19 ?_
    exact hend H locs ((-1000001)) (L, ob_W D f oa C mk im mk ad n g) _ ls w ⟨(by (try simp only [lg_cmp_le, lg_cmp_ge, lg_cmp_lt, lg_cmp_gt, hs_if10, ← Int32.not_lt, ← Int64.not_lt, Classical.not_not] at hz_one); first | (simp [cs_as, hs_inX, sp_found, sp_well, hz_one]; done) | (simp [cs_as, hs_inX, sp_found, sp_well, hz_one]; done) | (exfalso; clear hend ; simp_all; done)), (ob_eq (by (try simp only [lg_cmp_le, lg_cmp_ge, lg_cmp_lt, lg_cmp_gt, hs_if10, ← Int32.not_lt, ← Int64.not_lt, Classical.not_not] at hz_one); first | (simp [cs_as, hs_inX, sp_found, sp_well, hz_one]; done) | (simp [cs_as, hs_inX, sp_found, sp_well, hz_one]; done) | (exfalso; clear hend ; simp_all; done)) rfl)⟩ rfl dX11_as_21
  · subst e_one
    have h1j_one := cs_st_1 hs hj_one
    have hcj_one : (nI j_one).toNatClampNeg = j_one := nI_clamp (by omega)
    refine lv_astore_n (lv' := [(3, .ref (ad (2 + j_one))), (0, .ref (oa 0)), (1, .int (nI j_one)), (2, .int (kind))]) hx hb dX11_as_5 rfl hl (by decide) rfl (fun ls hl => ?_)
    refine lv_aload_n hx hb dX11_as_6 rfl (lv_at hl 0 rfl) ?_
    refine lv_ifnull hx hb dX11_as_7 ?_
    refine lv_iload_n hx hb dX11_as_10 rfl (lv_at hl 3 rfl) ?_
    refine lv_if_lt (tgt := 19) hx hb dX11_as_11 (by decide) (fun c_11 => ?_) (fun c_11 => ?_)
    · refine lv_ldc (v := (-1000001)) hx hb hown (hts _ (List.mem_of_getElem? (i := 1) rfl)) dX11_as_19 ?_
      exact hend H locs ((-1000001)) (L, ob_W D f oa C mk im mk ad n g) _ ls w ⟨(by (try simp only [lg_cmp_le, lg_cmp_ge, lg_cmp_lt, lg_cmp_gt, hs_if10, ← Int32.not_lt, ← Int64.not_lt, Classical.not_not] at c_11); first | (simp [cs_as, hs_inX, sp_found, sp_well, c_11, h1j_one, hcj_one]; done) | (simp [cs_as, hs_inX, sp_found, sp_well, c_11, h1j_one, hcj_one]; done) | (exfalso; clear hend ; simp_all; done)), (ob_eq (by (try simp only [lg_cmp_le, lg_cmp_ge, lg_cmp_lt, lg_cmp_gt, hs_if10, ← Int32.not_lt, ← Int64.not_lt, Classical.not_not] at c_11); first | (simp [cs_as, hs_inX, sp_found, sp_well, c_11, h1j_one, hcj_one]; done) | (simp [cs_as, hs_inX, sp_found, sp_well, c_11, h1j_one, hcj_one]; done) | (exfalso; clear hend ; simp_all; done)) rfl)⟩ rfl dX11_as_21
    · refine lv_iload_n hx hb dX11_as_14 rfl (lv_at hl 3 rfl) ?_
      refine lv_iconst (v := 5) hx hb dX11_as_15 (by decide) ?_
      refine lv_icmp_le (tgt := 22) hx hb dX11_as_16 (by decide) (fun c_16 => ?_) (fun c_16 => ?_)
      · refine lv_aload_n hx hb dX11_as_22 rfl (lv_at hl 0 rfl) ?_
        refine lv_iload_n hx hb dX11_as_23 rfl (lv_at hl 3 rfl) ?_
        refine hg_siF (r := (hs_isof (g (8 + j_one)) kind)) (As := [.ref (ad (2 + j_one)), .int (kind)]) (rest := []) X w (c_X11_isOfKind l D b0 L f oa C im mk ad n g hm hs ho j_one hj_one kind) (va_cwS 2 hts gX11_as_X11_isOfKind rfl rfl rfl hdX11_isOfKind ⟨Nat.le_of_ble_eq_true rfl, Nat.le_of_ble_eq_true rfl⟩) rfl hl.1 rfl (Nat.le_of_ble_eq_true rfl) dX11_as_24 ⟨Nat.zero_le _, Nat.zero_le _⟩ (fun H locs w => ?_)
        refine lv_if_eq (tgt := 38) hx hb dX11_as_27 (by decide) (fun c_27 => ?_) (fun c_27 => ?_)
        · refine lv_aload_n hx hb dX11_as_38 rfl (lv_at hl 1 rfl) ?_
          refine lv_iconst (v := 3) hx hb dX11_as_39 (by decide) ?_
          refine hg_viF (r := (-1000010 - 3)) (As := [.int (3)]) (rest := []) X w (c_X11_found l D b0 L f oa C im mk ad n g hm hs ho 3) (cwV 1 hts gX11_as_X11_found rfl rfl rfl hdX11_found ⟨Nat.le_of_ble_eq_true rfl, Nat.le_of_ble_eq_true rfl⟩) (ho.1 0 (by decide)).1 (ow_at ho (k := 0) (by decide)) rfl rfl rfl hl.1 rfl (Nat.le_of_ble_eq_true rfl) dX11_as_40 ⟨Nat.zero_le _, Nat.zero_le _⟩ (fun H locs w => ?_)
          exact hend H locs ((-1000010 - 3)) (L, ob_W D f oa (mo_w C 7 0 3) mk im mk ad n g) _ ls w ⟨(by (try simp only [lg_cmp_le, lg_cmp_ge, lg_cmp_lt, lg_cmp_gt, hs_if10, ← Int32.not_lt, ← Int64.not_lt, Classical.not_not] at c_11 c_16 c_27); first | (simp [cs_as, hs_inX, sp_found, sp_well, c_11, c_16, c_27, h1j_one, hcj_one]; done) | (simp [cs_as, hs_inX, sp_found, sp_well, c_11, c_16, eq_true c_27, h1j_one, hcj_one]; done) | (exfalso; clear hend ; simp_all; done)), (ob_eq (by (try simp only [lg_cmp_le, lg_cmp_ge, lg_cmp_lt, lg_cmp_gt, hs_if10, ← Int32.not_lt, ← Int64.not_lt, Classical.not_not] at c_11 c_16 c_27); first | (simp [cs_as, hs_inX, sp_found, sp_well, c_11, c_16, c_27, h1j_one, hcj_one]; done) | (simp [cs_as, hs_inX, sp_found, sp_well, c_11, c_16, eq_true c_27, h1j_one, hcj_one]; done) | (exfalso; clear hend ; simp_all; done)) rfl)⟩ rfl dX11_as_43
        · refine lv_aload_n hx hb dX11_as_30 rfl (lv_at hl 1 rfl) ?_
          refine lv_iload_n hx hb dX11_as_31 rfl (lv_at hl 2 rfl) ?_
          refine hg_viF (r := nI j_one) (As := [.int (nI j_one)]) (rest := []) X w (c_X11_unfound l D b0 L f oa C im mk ad n g hm hs ho (nI j_one)) (cwV 1 hts gX11_as_X11_unfound rfl rfl rfl hdX11_unfound ⟨Nat.le_of_ble_eq_true rfl, Nat.le_of_ble_eq_true rfl⟩) (ho.1 0 (by decide)).1 (ow_at ho (k := 0) (by decide)) rfl rfl rfl hl.1 rfl (Nat.le_of_ble_eq_true rfl) dX11_as_32 ⟨Nat.zero_le _, Nat.zero_le _⟩ (fun H locs w => ?_)
          refine lv_goto (tgt := 43) hx hb dX11_as_35 (by decide) ?_
          exact hend H locs (nI j_one) (L, ob_W D f oa (mo_w C 7 0 0) mk im mk ad n g) _ ls w ⟨(by (try simp only [lg_cmp_le, lg_cmp_ge, lg_cmp_lt, lg_cmp_gt, hs_if10, ← Int32.not_lt, ← Int64.not_lt, Classical.not_not] at c_11 c_16 c_27); first | (simp [cs_as, hs_inX, sp_found, sp_well, c_11, c_16, c_27, h1j_one, hcj_one]; done) | (simp [cs_as, hs_inX, sp_found, sp_well, c_11, c_16, c_27, h1j_one, hcj_one]; done) | (exfalso; clear hend ; simp_all; done)), (ob_eq (by (try simp only [lg_cmp_le, lg_cmp_ge, lg_cmp_lt, lg_cmp_gt, hs_if10, ← Int32.not_lt, ← Int64.not_lt, Classical.not_not] at c_11 c_16 c_27); first | (simp [cs_as, hs_inX, sp_found, sp_well, c_11, c_16, c_27, h1j_one, hcj_one]; done) | (simp [cs_as, hs_inX, sp_found, sp_well, c_11, c_16, c_27, h1j_one, hcj_one]; done) | (exfalso; clear hend ; simp_all; done)) rfl)⟩ rfl dX11_as_43
      · refine lv_ldc (v := (-1000001)) hx hb hown (hts _ (List.mem_of_getElem? (i := 1) rfl)) dX11_as_19 ?_
        exact hend H locs ((-1000001)) (L, ob_W D f oa C mk im mk ad n g) _ ls w ⟨(by (try simp only [lg_cmp_le, lg_cmp_ge, lg_cmp_lt, lg_cmp_gt, hs_if10, ← Int32.not_lt, ← Int64.not_lt, Classical.not_not] at c_11 c_16); first | (simp [cs_as, hs_inX, sp_found, sp_well, c_11, c_16, h1j_one, hcj_one]; done) | (simp [cs_as, hs_inX, sp_found, sp_well, c_11, c_16, h1j_one, hcj_one]; done) | (exfalso; clear hend ; simp_all; done)), (ob_eq (by (try simp only [lg_cmp_le, lg_cmp_ge, lg_cmp_lt, lg_cmp_gt, hs_if10, ← Int32.not_lt, ← Int64.not_lt, Classical.not_not] at c_11 c_16); first | (simp [cs_as, hs_inX, sp_found, sp_well, c_11, c_16, h1j_one, hcj_one]; done) | (simp [cs_as, hs_inX, sp_found, sp_well, c_11, c_16, h1j_one, hcj_one]; done) | (exfalso; clear hend ; simp_all; done)) rfl)⟩ rfl dX11_as_21
set_option maxRecDepth 100000 in
set_option maxHeartbeats 4000000 in
theorem c_X11_walkway (l : Launch) (D : va_G) (b0 : Nat) (L : List Nat) (f : Nat → va_E) (oa : Nat → Nat) (C : Nat → Nat → Int32) (im : Nat → Option Nat) (mk : Nat) (ad : Nat → Nat) (n : Nat) (g : Nat → Int32) (hm : mk_ok L mk ad n) (hs : mk_sr g n) (ho : ob_ok L oa mk ad n) (nr : Nat) (ht : mk_t g nr) (a b : Int32) : hg_Fi l yX11_walkway wsX11_walkway ({ frames := 5, cells := 0, slots := 0, locals := 112 }) D b0 L (ob_W D f oa C mk im mk ad n g) [.ref (oa 0), .int (a), .int (b)] (cq_walkway g n a b) (ob_W D f oa C mk im mk ad n g) := by
  refine hg_in_i (cc := cX11_walkway) (nL := 5) (by decide) rfl (Nat.le_of_ble_eq_true rfl) (fun p e s m args below meth c R Q X hR hend H locs ls w hl => ?_)
  subst hR
  obtain ⟨hx, hb, hml, hown, hts⟩ := id X.1
  have hin : mk_in wsX11_walkway := ⟨fun w h => List.mem_cons_of_mem _ (List.mem_append_left _ (List.mem_append_left _ (List.mem_append_left _ (List.mem_append_left _ (List.mem_append_right _ h))))), fun w h => List.mem_cons_of_mem _ (List.mem_append_left _ (List.mem_append_left _ (List.mem_append_left _ (List.mem_append_right _ h)))), fun w h => List.mem_cons_of_mem _ (List.mem_append_left _ (List.mem_append_left _ (List.mem_append_right _ h))), fun w h => List.mem_cons_of_mem _ (List.mem_append_left _ (List.mem_append_right _ h)), fun w h => List.mem_cons_of_mem _ (List.mem_append_right _ h)⟩
  have hin3 : ∀ w ∈ wsX30, w ∈ wsX11_walkway := fun w h => List.mem_cons_of_mem _ (List.mem_append_left _ (List.mem_append_left _ (List.mem_append_left _ (List.mem_append_left _ (List.mem_append_left _ (List.mem_append_right _ h))))))
  have hin11 : ∀ w ∈ wsX110, w ∈ wsX11_walkway := fun w h => List.mem_cons_of_mem _ (List.mem_append_left _ (List.mem_append_left _ (List.mem_append_left _ (List.mem_append_left _ (List.mem_append_left _ (List.mem_append_left _ (List.mem_append_right _ h)))))))
  have hl : lv_has ls 5 [(0, .ref (oa 0)), (1, .int (a)), (2, .int (b))] := hl
  have hn6 := hs.2.1
  refine lv_aload_n hx hb dX11_walkway_0 rfl (lv_at hl 0 rfl) ?_
  refine lv_iload_n hx hb dX11_walkway_1 rfl (lv_at hl 1 rfl) ?_
  refine hg_vqF (r := cs_sa ad g a) (As := [.int (a)]) (rest := []) X w (c_X11_stallAt l D b0 L f oa C im mk ad n g hm hs ho a) (cwV 1 hts gX11_walkway_X11_stallAt rfl rfl rfl hdX11_stallAt ⟨Nat.le_of_ble_eq_true rfl, Nat.le_of_ble_eq_true rfl⟩) (ho.1 0 (by decide)).1 (ow_at ho (k := 0) (by decide)) rfl rfl rfl hl.1 rfl (Nat.le_of_ble_eq_true rfl) dX11_walkway_2 ⟨Nat.zero_le _, Nat.zero_le _⟩ (fun H locs w => ?_)
  refine ob_qs hs (fun hz_a => ?_) (fun j_a hj_a e_a => ?_)
  · refine lv_astore_nN (lv' := [(3, .null), (0, .ref (oa 0)), (1, .int (a)), (2, .int (b))]) hx hb dX11_walkway_5 rfl hl (by decide) rfl (fun ls hl => ?_)
    refine lv_aload_n hx hb dX11_walkway_6 rfl (lv_at hl 1 rfl) ?_
    refine lv_iload_n hx hb dX11_walkway_7 rfl (lv_at hl 3 rfl) ?_
    refine hg_vqF (r := cs_sa ad g b) (As := [.int (b)]) (rest := []) X w (c_X11_stallAt l D b0 L f oa C im mk ad n g hm hs ho b) (cwV 1 hts gX11_walkway_X11_stallAt rfl rfl rfl hdX11_stallAt ⟨Nat.le_of_ble_eq_true rfl, Nat.le_of_ble_eq_true rfl⟩) (ho.1 0 (by decide)).1 (ow_at ho (k := 0) (by decide)) rfl rfl rfl hl.1 rfl (Nat.le_of_ble_eq_true rfl) dX11_walkway_8 ⟨Nat.zero_le _, Nat.zero_le _⟩ (fun H locs w => ?_)
    refine ob_qs hs (fun hz_b => ?_) (fun j_b hj_b e_b => ?_)
    · refine lv_astoreN (lv' := [(4, .null), (3, .null), (0, .ref (oa 0)), (1, .int (a)), (2, .int (b))]) hx hb dX11_walkway_11 hl (by decide) rfl (fun ls hl => ?_)
      refine lv_aload_nN hx hb dX11_walkway_13 rfl (lv_at hl 1 rfl) ?_
      refine lv_ifnullN (tgt := 27) hx hb dX11_walkway_14 (by decide) ?_
      refine lv_ldc (v := (-1000001)) hx hb hown (hts _ (List.mem_of_getElem? (i := 1) rfl)) dX11_walkway_27 ?_
      exact hend H locs ((-1000001)) (L, ob_W D f oa C mk im mk ad n g) _ ls w ⟨(by (try simp only [lg_cmp_le, lg_cmp_ge, lg_cmp_lt, lg_cmp_gt, hs_if10, ← Int32.not_lt, ← Int64.not_lt, Classical.not_not] at hz_a hz_b); first | (simp [cq_walkway, hz_a, hz_b]; done) | (simp [cq_walkway, hz_a, hz_b]; done) | (exfalso; clear hend ; simp_all; done)), rfl⟩ rfl dX11_walkway_29
    · subst e_b
      have h1j_b := cs_st_1 hs hj_b
      have hcj_b : (nI j_b).toNatClampNeg = j_b := nI_clamp (by omega)
      refine lv_astore (lv' := [(4, .ref (ad (2 + j_b))), (3, .null), (0, .ref (oa 0)), (1, .int (a)), (2, .int (nI j_b))]) hx hb dX11_walkway_11 hl (by decide) rfl (fun ls hl => ?_)
      refine lv_aload_nN hx hb dX11_walkway_13 rfl (lv_at hl 1 rfl) ?_
      refine lv_ifnullN (tgt := 27) hx hb dX11_walkway_14 (by decide) ?_
      refine lv_ldc (v := (-1000001)) hx hb hown (hts _ (List.mem_of_getElem? (i := 1) rfl)) dX11_walkway_27 ?_
      exact hend H locs ((-1000001)) (L, ob_W D f oa C mk im mk ad n g) _ ls w ⟨(by (try simp only [lg_cmp_le, lg_cmp_ge, lg_cmp_lt, lg_cmp_gt, hs_if10, ← Int32.not_lt, ← Int64.not_lt, Classical.not_not] at hz_a); first | (simp [cq_walkway, hz_a, h1j_b, hcj_b]; done) | (simp [cq_walkway, hz_a, h1j_b, hcj_b]; done) | (exfalso; clear hend ; simp_all; done)), rfl⟩ rfl dX11_walkway_29
  · subst e_a
    have h1j_a := cs_st_1 hs hj_a
    have hcj_a : (nI j_a).toNatClampNeg = j_a := nI_clamp (by omega)
    refine lv_astore_n (lv' := [(3, .ref (ad (2 + j_a))), (0, .ref (oa 0)), (1, .int (nI j_a)), (2, .int (b))]) hx hb dX11_walkway_5 rfl hl (by decide) rfl (fun ls hl => ?_)
    refine lv_aload_n hx hb dX11_walkway_6 rfl (lv_at hl 1 rfl) ?_
    refine lv_iload_n hx hb dX11_walkway_7 rfl (lv_at hl 3 rfl) ?_
    refine hg_vqF (r := cs_sa ad g b) (As := [.int (b)]) (rest := []) X w (c_X11_stallAt l D b0 L f oa C im mk ad n g hm hs ho b) (cwV 1 hts gX11_walkway_X11_stallAt rfl rfl rfl hdX11_stallAt ⟨Nat.le_of_ble_eq_true rfl, Nat.le_of_ble_eq_true rfl⟩) (ho.1 0 (by decide)).1 (ow_at ho (k := 0) (by decide)) rfl rfl rfl hl.1 rfl (Nat.le_of_ble_eq_true rfl) dX11_walkway_8 ⟨Nat.zero_le _, Nat.zero_le _⟩ (fun H locs w => ?_)
    refine ob_qs hs (fun hz_b => ?_) (fun j_b hj_b e_b => ?_)
    · refine lv_astoreN (lv' := [(4, .null), (3, .ref (ad (2 + j_a))), (0, .ref (oa 0)), (1, .int (nI j_a)), (2, .int (b))]) hx hb dX11_walkway_11 hl (by decide) rfl (fun ls hl => ?_)
      refine lv_aload_n hx hb dX11_walkway_13 rfl (lv_at hl 1 rfl) ?_
      refine lv_ifnull hx hb dX11_walkway_14 ?_
      refine lv_aloadN hx hb dX11_walkway_17 (lv_at hl 0 rfl) ?_
      refine lv_ifnullN (tgt := 27) hx hb dX11_walkway_19 (by decide) ?_
      refine lv_ldc (v := (-1000001)) hx hb hown (hts _ (List.mem_of_getElem? (i := 1) rfl)) dX11_walkway_27 ?_
      exact hend H locs ((-1000001)) (L, ob_W D f oa C mk im mk ad n g) _ ls w ⟨(by (try simp only [lg_cmp_le, lg_cmp_ge, lg_cmp_lt, lg_cmp_gt, hs_if10, ← Int32.not_lt, ← Int64.not_lt, Classical.not_not] at hz_b); first | (simp [cq_walkway, hz_b, h1j_a, hcj_a]; done) | (simp [cq_walkway, hz_b, h1j_a, hcj_a]; done) | (exfalso; clear hend ; simp_all; done)), rfl⟩ rfl dX11_walkway_29
    · subst e_b
      have h1j_b := cs_st_1 hs hj_b
      have hcj_b : (nI j_b).toNatClampNeg = j_b := nI_clamp (by omega)
      refine lv_astore (lv' := [(4, .ref (ad (2 + j_b))), (3, .ref (ad (2 + j_a))), (0, .ref (oa 0)), (1, .int (nI j_a)), (2, .int (nI j_b))]) hx hb dX11_walkway_11 hl (by decide) rfl (fun ls hl => ?_)
      refine lv_aload_n hx hb dX11_walkway_13 rfl (lv_at hl 1 rfl) ?_
      refine lv_ifnull hx hb dX11_walkway_14 ?_
      refine lv_aload hx hb dX11_walkway_17 (lv_at hl 0 rfl) ?_
      refine lv_ifnull hx hb dX11_walkway_19 ?_
      refine lv_iload_n hx hb dX11_walkway_22 rfl (lv_at hl 3 rfl) ?_
      refine lv_iload_n hx hb dX11_walkway_23 rfl (lv_at hl 4 rfl) ?_
      refine lv_icmp_ne (tgt := 30) hx hb dX11_walkway_24 (by decide) (fun c_24 => ?_) (fun c_24 => ?_)
      · refine lv_aload_n hx hb dX11_walkway_30 rfl (lv_at hl 2 rfl) ?_
        refine ob_get X w ho 0 (by decide) (C0 := RX11) (T := TX11) (N := 12) (ci := 9) rfl hin11 rfl 9 (by decide) (List.mem_of_getElem? (i := 2) rfl) rfl rfl dX11_walkway_31 ?_
        refine lv_aload_n hx hb dX11_walkway_34 rfl (lv_at hl 1 rfl) ?_
        refine lv_aload hx hb dX11_walkway_35 (lv_at hl 0 rfl) ?_
        refine hg_viF (r := (mk_joins g j_a j_b)) (As := [.ref (ad (2 + j_a)), .ref (ad (2 + j_b))]) (rest := []) X w (c_X3_joins l D b0 L (ob_F D f oa C mk im) mk ad n g hm hs j_a j_b hj_a hj_b) (cwV 2 hts gX11_walkway_X3_joins rfl rfl rfl hdX3_joins ⟨Nat.le_of_ble_eq_true rfl, Nat.le_of_ble_eq_true rfl⟩) hm.1 (mk_at0 D _ mk ad n _) rfl rfl rfl hl.1 rfl (Nat.le_of_ble_eq_true rfl) dX11_walkway_37 ⟨Nat.zero_le _, Nat.zero_le _⟩ (fun H locs w => ?_)
        refine lv_if_ne (tgt := 45) hx hb dX11_walkway_40 (by decide) (fun c_40 => ?_) (fun c_40 => ?_)
        · refine lv_aload_n hx hb dX11_walkway_45 rfl (lv_at hl 2 rfl) ?_
          refine ob_get X w ho 0 (by decide) (C0 := RX11) (T := TX11) (N := 12) (ci := 9) rfl hin11 rfl 9 (by decide) (List.mem_of_getElem? (i := 2) rfl) rfl rfl dX11_walkway_46 ?_
          refine lv_aload_n hx hb dX11_walkway_49 rfl (lv_at hl 1 rfl) ?_
          refine lv_aload hx hb dX11_walkway_50 (lv_at hl 0 rfl) ?_
          refine hg_viF (r := (mk_meets g n j_a j_b)) (As := [.ref (ad (2 + j_a)), .ref (ad (2 + j_b))]) (rest := []) X w (c_X3_meets l D b0 L (ob_F D f oa C mk im) mk ad n g hm hs nr ht j_a j_b hj_a hj_b) (cwV 2 hts gX11_walkway_X3_meets rfl rfl rfl hdX3_meets ⟨Nat.le_of_ble_eq_true rfl, Nat.le_of_ble_eq_true rfl⟩) hm.1 (mk_at0 D _ mk ad n _) rfl rfl rfl hl.1 rfl (Nat.le_of_ble_eq_true rfl) dX11_walkway_52 ⟨Nat.zero_le _, Nat.zero_le _⟩ (fun H locs w => ?_)
          refine lv_if_eq (tgt := 62) hx hb dX11_walkway_55 (by decide) (fun c_55 => ?_) (fun c_55 => ?_)
          · refine lv_iconst (v := 1) hx hb dX11_walkway_62 (by decide) ?_
            exact hend H locs (1) (L, ob_W D f oa C mk im mk ad n g) _ ls w ⟨(by (try simp only [lg_cmp_le, lg_cmp_ge, lg_cmp_lt, lg_cmp_gt, hs_if10, ← Int32.not_lt, ← Int64.not_lt, Classical.not_not] at c_24 c_40 c_55); first | (simp [cq_walkway, c_24, c_40, c_55, h1j_a, hcj_a, h1j_b, hcj_b]; done) | (simp [cq_walkway, c_24, c_40, eq_true c_55, h1j_a, hcj_a, h1j_b, hcj_b]; done) | (exfalso; clear hend ; simp_all; done)), rfl⟩ rfl dX11_walkway_63
          · refine lv_iconst (v := 2) hx hb dX11_walkway_58 (by decide) ?_
            refine lv_goto (tgt := 63) hx hb dX11_walkway_59 (by decide) ?_
            exact hend H locs (2) (L, ob_W D f oa C mk im mk ad n g) _ ls w ⟨(by (try simp only [lg_cmp_le, lg_cmp_ge, lg_cmp_lt, lg_cmp_gt, hs_if10, ← Int32.not_lt, ← Int64.not_lt, Classical.not_not] at c_24 c_40 c_55); first | (simp [cq_walkway, c_24, c_40, c_55, h1j_a, hcj_a, h1j_b, hcj_b]; done) | (simp [cq_walkway, c_24, c_40, c_55, h1j_a, hcj_a, h1j_b, hcj_b]; done) | (exfalso; clear hend ; simp_all; done)), rfl⟩ rfl dX11_walkway_63
        · refine lv_iconst (v := 0) hx hb dX11_walkway_43 (by decide) ?_
          exact hend H locs (0) (L, ob_W D f oa C mk im mk ad n g) _ ls w ⟨(by (try simp only [lg_cmp_le, lg_cmp_ge, lg_cmp_lt, lg_cmp_gt, hs_if10, ← Int32.not_lt, ← Int64.not_lt, Classical.not_not] at c_24 c_40); first | (simp [cq_walkway, c_24, c_40, h1j_a, hcj_a, h1j_b, hcj_b]; done) | (simp [cq_walkway, c_24, eq_true c_40, h1j_a, hcj_a, h1j_b, hcj_b]; done) | (exfalso; clear hend ; simp_all; done)), rfl⟩ rfl dX11_walkway_44
      · refine lv_ldc (v := (-1000001)) hx hb hown (hts _ (List.mem_of_getElem? (i := 1) rfl)) dX11_walkway_27 ?_
        exact hend H locs ((-1000001)) (L, ob_W D f oa C mk im mk ad n g) _ ls w ⟨(by (try simp only [lg_cmp_le, lg_cmp_ge, lg_cmp_lt, lg_cmp_gt, hs_if10, ← Int32.not_lt, ← Int64.not_lt, Classical.not_not] at c_24); first | (simp [cq_walkway, c_24, h1j_a, hcj_a, h1j_b, hcj_b]; done) | (simp [cq_walkway, eq_true c_24, h1j_a, hcj_a, h1j_b, hcj_b]; done) | (exfalso; clear hend ; simp_all; done)), rfl⟩ rfl dX11_walkway_29
theorem hdX11_isNoBit : yX11_isNoBit.cls ≠ "java/lang/invoke/MethodHandle" ∧ yX11_isNoBit.cls ≠ "java/lang/invoke/VarHandle" ∧ (parseMethodDescriptor yX11_isNoBit.desc).map (fun d => d.parameters.length) = some 1 := by decide +kernel
set_option maxRecDepth 100000 in
set_option maxHeartbeats 4000000 in
theorem c_X11_walkways (l : Launch) (D : va_G) (b0 : Nat) (L : List Nat) (f : Nat → va_E) (oa : Nat → Nat) (C : Nat → Nat → Int32) (im : Nat → Option Nat) (mk : Nat) (ad : Nat → Nat) (n : Nat) (g : Nat → Int32) (hm : mk_ok L mk ad n) (hs : mk_sr g n) (ho : ob_ok L oa mk ad n) (nr : Nat) (ht : mk_t g nr) (what : Int32) : hg_Fi l yX11_walkways wsX11_walkways ({ frames := 6, cells := 0, slots := 0, locals := 142 }) D b0 L (ob_W D f oa C mk im mk ad n g) [.ref (oa 0), .int (what)] (cq_walkways g n what) (ob_W D f oa C mk im mk ad n g) := by
  refine hg_in_i (cc := cX11_walkways) (nL := 2) (by decide) rfl (Nat.le_of_ble_eq_true rfl) (fun p e s m args below meth c R Q X hR hend H locs ls w hl => ?_)
  subst hR
  obtain ⟨hx, hb, hml, hown, hts⟩ := id X.1
  have hin : mk_in wsX11_walkways := ⟨fun w h => List.mem_cons_of_mem _ (List.mem_append_left _ (List.mem_append_left _ (List.mem_append_left _ (List.mem_append_left _ (List.mem_append_right _ h))))), fun w h => List.mem_cons_of_mem _ (List.mem_append_left _ (List.mem_append_left _ (List.mem_append_left _ (List.mem_append_right _ h)))), fun w h => List.mem_cons_of_mem _ (List.mem_append_left _ (List.mem_append_left _ (List.mem_append_right _ h))), fun w h => List.mem_cons_of_mem _ (List.mem_append_left _ (List.mem_append_right _ h)), fun w h => List.mem_cons_of_mem _ (List.mem_append_right _ h)⟩
  have hin3 : ∀ w ∈ wsX30, w ∈ wsX11_walkways := fun w h => List.mem_cons_of_mem _ (List.mem_append_left _ (List.mem_append_left _ (List.mem_append_left _ (List.mem_append_left _ (List.mem_append_left _ (List.mem_append_right _ h))))))
  have hin11 : ∀ w ∈ wsX110, w ∈ wsX11_walkways := fun w h => List.mem_cons_of_mem _ (List.mem_append_left _ (List.mem_append_left _ (List.mem_append_left _ (List.mem_append_left _ (List.mem_append_left _ (List.mem_append_left _ (List.mem_append_right _ h)))))))
  have hl : lv_has ls 2 [(0, .ref (oa 0)), (1, .int (what))] := hl
  have hn6 := hs.2.1
  refine lv_aload_n hx hb dX11_walkways_0 rfl (lv_at hl 0 rfl) ?_
  refine hg_viF (r := (if g 2 = 0 then 1 else 0)) (As := []) (rest := []) X w (c_X11_noMarket l D b0 L f oa C im mk ad n g hm hs ho ) (cwV 0 hts gX11_walkways_X11_noMarket rfl rfl rfl hdX11_noMarket ⟨Nat.le_of_ble_eq_true rfl, Nat.le_of_ble_eq_true rfl⟩) (ho.1 0 (by decide)).1 (ow_at ho (k := 0) (by decide)) rfl rfl rfl hl.1 rfl (Nat.le_of_ble_eq_true rfl) dX11_walkways_1 ⟨Nat.zero_le _, Nat.zero_le _⟩ (fun H locs w => ?_)
  refine lv_if_eq (tgt := 10) hx hb dX11_walkways_4 (by decide) (fun c_4 => ?_) (fun c_4 => ?_)
  · refine lv_iload_n hx hb dX11_walkways_10 rfl (lv_at hl 1 rfl) ?_
    refine hg_siF (r := (if hs_in what 0 1 = 0 then 1 else 0)) (As := [.int (what)]) (rest := []) X w (c_X11_isNoBit l D b0 L f oa C im mk ad n g hm hs ho what) (va_cwS 1 hts gX11_walkways_X11_isNoBit rfl rfl rfl hdX11_isNoBit ⟨Nat.le_of_ble_eq_true rfl, Nat.le_of_ble_eq_true rfl⟩) rfl hl.1 rfl (Nat.le_of_ble_eq_true rfl) dX11_walkways_11 ⟨Nat.zero_le _, Nat.zero_le _⟩ (fun H locs w => ?_)
    refine lv_if_eq (tgt := 20) hx hb dX11_walkways_14 (by decide) (fun c_14 => ?_) (fun c_14 => ?_)
    · refine lv_aload_n hx hb dX11_walkways_20 rfl (lv_at hl 0 rfl) ?_
      refine ob_get X w ho 0 (by decide) (C0 := RX11) (T := TX11) (N := 12) (ci := 9) rfl hin11 rfl 9 (by decide) (List.mem_of_getElem? (i := 3) rfl) rfl rfl dX11_walkways_21 ?_
      refine lv_iload_n hx hb dX11_walkways_24 rfl (lv_at hl 1 rfl) ?_
      refine lv_iconst (v := 1) hx hb dX11_walkways_25 (by decide) ?_
      refine lv_icmp_ne (tgt := 33) hx hb dX11_walkways_26 (by decide) (fun c_26 => ?_) (fun c_26 => ?_)
      · refine lv_iconst (v := 0) hx hb dX11_walkways_33 (by decide) ?_
        refine hg_viF (r := (mk_w g n 0 n)) (As := [.int (0)]) (rest := []) X w (c_X3_countWalkways l D b0 L (ob_F D f oa C mk im) mk ad n g hm hs nr ht 0) (cwV 1 hts gX11_walkways_X3_countWalkways rfl rfl rfl hdX3_countWalkways ⟨Nat.le_of_ble_eq_true rfl, Nat.le_of_ble_eq_true rfl⟩) hm.1 (mk_at0 D _ mk ad n _) rfl rfl rfl hl.1 rfl (Nat.le_of_ble_eq_true rfl) dX11_walkways_34 ⟨Nat.zero_le _, Nat.zero_le _⟩ (fun H locs w => ?_)
        exact hend H locs ((mk_w g n 0 n)) (L, ob_W D f oa C mk im mk ad n g) _ ls w ⟨(by rw [cq_walkways, if_neg (hs_if0 c_4), if_neg (hs_if0 c_14), if_neg c_26]), rfl⟩ rfl dX11_walkways_37
      · refine lv_iconst (v := 1) hx hb dX11_walkways_29 (by decide) ?_
        refine lv_goto (tgt := 34) hx hb dX11_walkways_30 (by decide) ?_
        refine hg_viF (r := (mk_w g n 1 n)) (As := [.int (1)]) (rest := []) X w (c_X3_countWalkways l D b0 L (ob_F D f oa C mk im) mk ad n g hm hs nr ht 1) (cwV 1 hts gX11_walkways_X3_countWalkways rfl rfl rfl hdX3_countWalkways ⟨Nat.le_of_ble_eq_true rfl, Nat.le_of_ble_eq_true rfl⟩) hm.1 (mk_at0 D _ mk ad n _) rfl rfl rfl hl.1 rfl (Nat.le_of_ble_eq_true rfl) dX11_walkways_34 ⟨Nat.zero_le _, Nat.zero_le _⟩ (fun H locs w => ?_)
        exact hend H locs ((mk_w g n 1 n)) (L, ob_W D f oa C mk im mk ad n g) _ ls w ⟨(by rw [cq_walkways, if_neg (hs_if0 c_4), if_neg (hs_if0 c_14), if_pos c_26]), rfl⟩ rfl dX11_walkways_37
    · refine lv_ldc (v := (-1000001)) hx hb hown (hts _ (List.mem_of_getElem? (i := 2) rfl)) dX11_walkways_17 ?_
      exact hend H locs ((-1000001)) (L, ob_W D f oa C mk im mk ad n g) _ ls w ⟨(by (try simp only [lg_cmp_le, lg_cmp_ge, lg_cmp_lt, lg_cmp_gt, hs_if10, ← Int32.not_lt, ← Int64.not_lt, Classical.not_not] at c_4 c_14); first | (simp [cq_walkways, c_4, c_14]; done) | (simp [cq_walkways, eq_true c_4, c_14]; done) | (exfalso; clear hend ; simp_all; done)), rfl⟩ rfl dX11_walkways_19
  · refine lv_ldc (v := (-1000002)) hx hb hown (hts _ (List.mem_of_getElem? (i := 1) rfl)) dX11_walkways_7 ?_
    exact hend H locs ((-1000002)) (L, ob_W D f oa C mk im mk ad n g) _ ls w ⟨(by (try simp only [lg_cmp_le, lg_cmp_ge, lg_cmp_lt, lg_cmp_gt, hs_if10, ← Int32.not_lt, ← Int64.not_lt, Classical.not_not] at c_4); first | (simp [cq_walkways, c_4]; done) | (simp [cq_walkways, c_4]; done) | (exfalso; clear hend ; simp_all; done)), rfl⟩ rfl dX11_walkways_9
theorem hdX1_fewestGirls : yX1_fewestGirls.cls ≠ "java/lang/invoke/MethodHandle" ∧ yX1_fewestGirls.cls ≠ "java/lang/invoke/VarHandle" ∧ (parseMethodDescriptor yX1_fewestGirls.desc).map (fun d => d.parameters.length) = some 4 := by decide +kernel
set_option maxRecDepth 100000 in
set_option maxHeartbeats 4000000 in
theorem c_X11_even (l : Launch) (D : va_G) (b0 : Nat) (L : List Nat) (f : Nat → va_E) (oa : Nat → Nat) (C : Nat → Nat → Int32) (im : Nat → Option Nat) (mk : Nat) (ad : Nat → Nat) (n : Nat) (g : Nat → Int32) (hm : mk_ok L mk ad n) (hs : mk_sr g n) (ho : ob_ok L oa mk ad n) (nr : Nat) (ht : mk_t g nr) (a b what : Int32) : hg_Fi l yX11_even wsX11_even ({ frames := 6, cells := 0, slots := 0, locals := 141 }) D b0 L (ob_W D f oa C mk im mk ad n g) [.ref (oa 0), .int (a), .int (b), .int (what)] (cq_even g n a b what) (ob_W D f oa C mk im mk ad n g) := by
  refine hg_in_i (cc := cX11_even) (nL := 6) (by decide) rfl (Nat.le_of_ble_eq_true rfl) (fun p e s m args below meth c R Q X hR hend H locs ls w hl => ?_)
  subst hR
  obtain ⟨hx, hb, hml, hown, hts⟩ := id X.1
  have hin : mk_in wsX11_even := ⟨fun w h => List.mem_cons_of_mem _ (List.mem_append_left _ (List.mem_append_left _ (List.mem_append_left _ (List.mem_append_left _ (List.mem_append_right _ h))))), fun w h => List.mem_cons_of_mem _ (List.mem_append_left _ (List.mem_append_left _ (List.mem_append_left _ (List.mem_append_right _ h)))), fun w h => List.mem_cons_of_mem _ (List.mem_append_left _ (List.mem_append_left _ (List.mem_append_right _ h))), fun w h => List.mem_cons_of_mem _ (List.mem_append_left _ (List.mem_append_right _ h)), fun w h => List.mem_cons_of_mem _ (List.mem_append_right _ h)⟩
  have hin3 : ∀ w ∈ wsX30, w ∈ wsX11_even := fun w h => List.mem_cons_of_mem _ (List.mem_append_left _ (List.mem_append_left _ (List.mem_append_left _ (List.mem_append_left _ (List.mem_append_left _ (List.mem_append_right _ h))))))
  have hin11 : ∀ w ∈ wsX110, w ∈ wsX11_even := fun w h => List.mem_cons_of_mem _ (List.mem_append_left _ (List.mem_append_left _ (List.mem_append_left _ (List.mem_append_left _ (List.mem_append_left _ (List.mem_append_left _ (List.mem_append_right _ h)))))))
  have hl : lv_has ls 6 [(0, .ref (oa 0)), (1, .int (a)), (2, .int (b)), (3, .int (what))] := hl
  have hn6 := hs.2.1
  refine lv_aload_n hx hb dX11_even_0 rfl (lv_at hl 0 rfl) ?_
  refine lv_iload_n hx hb dX11_even_1 rfl (lv_at hl 1 rfl) ?_
  refine hg_vqF (r := cs_sa ad g a) (As := [.int (a)]) (rest := []) X w (c_X11_stallAt l D b0 L f oa C im mk ad n g hm hs ho a) (cwV 1 hts gX11_even_X11_stallAt rfl rfl rfl hdX11_stallAt ⟨Nat.le_of_ble_eq_true rfl, Nat.le_of_ble_eq_true rfl⟩) (ho.1 0 (by decide)).1 (ow_at ho (k := 0) (by decide)) rfl rfl rfl hl.1 rfl (Nat.le_of_ble_eq_true rfl) dX11_even_2 ⟨Nat.zero_le _, Nat.zero_le _⟩ (fun H locs w => ?_)
  refine ob_qs hs (fun hz_a => ?_) (fun j_a hj_a e_a => ?_)
  · refine lv_astoreN (lv' := [(4, .null), (0, .ref (oa 0)), (1, .int (a)), (2, .int (b)), (3, .int (what))]) hx hb dX11_even_5 hl (by decide) rfl (fun ls hl => ?_)
    refine lv_aload_n hx hb dX11_even_7 rfl (lv_at hl 1 rfl) ?_
    refine lv_iload_n hx hb dX11_even_8 rfl (lv_at hl 3 rfl) ?_
    refine hg_vqF (r := cs_sa ad g b) (As := [.int (b)]) (rest := []) X w (c_X11_stallAt l D b0 L f oa C im mk ad n g hm hs ho b) (cwV 1 hts gX11_even_X11_stallAt rfl rfl rfl hdX11_stallAt ⟨Nat.le_of_ble_eq_true rfl, Nat.le_of_ble_eq_true rfl⟩) (ho.1 0 (by decide)).1 (ow_at ho (k := 0) (by decide)) rfl rfl rfl hl.1 rfl (Nat.le_of_ble_eq_true rfl) dX11_even_9 ⟨Nat.zero_le _, Nat.zero_le _⟩ (fun H locs w => ?_)
    refine ob_qs hs (fun hz_b => ?_) (fun j_b hj_b e_b => ?_)
    · refine lv_astoreN (lv' := [(5, .null), (4, .null), (0, .ref (oa 0)), (1, .int (a)), (2, .int (b)), (3, .int (what))]) hx hb dX11_even_12 hl (by decide) rfl (fun ls hl => ?_)
      refine lv_aloadN hx hb dX11_even_14 (lv_at hl 1 rfl) ?_
      refine lv_ifnullN (tgt := 36) hx hb dX11_even_16 (by decide) ?_
      refine lv_ldc (v := (-1000001)) hx hb hown (hts _ (List.mem_of_getElem? (i := 1) rfl)) dX11_even_36 ?_
      exact hend H locs ((-1000001)) (L, ob_W D f oa C mk im mk ad n g) _ ls w ⟨(by (try simp only [lg_cmp_le, lg_cmp_ge, lg_cmp_lt, lg_cmp_gt, hs_if10, ← Int32.not_lt, ← Int64.not_lt, Classical.not_not] at hz_a hz_b); first | (simp [cq_even, hz_a, hz_b]; done) | (simp [cq_even, hz_a, hz_b]; done) | (exfalso; clear hend ; simp_all; done)), rfl⟩ rfl dX11_even_38
    · subst e_b
      have h1j_b := cs_st_1 hs hj_b
      have hcj_b : (nI j_b).toNatClampNeg = j_b := nI_clamp (by omega)
      refine lv_astore (lv' := [(5, .ref (ad (2 + j_b))), (4, .null), (0, .ref (oa 0)), (1, .int (a)), (2, .int (nI j_b)), (3, .int (what))]) hx hb dX11_even_12 hl (by decide) rfl (fun ls hl => ?_)
      refine lv_aloadN hx hb dX11_even_14 (lv_at hl 1 rfl) ?_
      refine lv_ifnullN (tgt := 36) hx hb dX11_even_16 (by decide) ?_
      refine lv_ldc (v := (-1000001)) hx hb hown (hts _ (List.mem_of_getElem? (i := 1) rfl)) dX11_even_36 ?_
      exact hend H locs ((-1000001)) (L, ob_W D f oa C mk im mk ad n g) _ ls w ⟨(by (try simp only [lg_cmp_le, lg_cmp_ge, lg_cmp_lt, lg_cmp_gt, hs_if10, ← Int32.not_lt, ← Int64.not_lt, Classical.not_not] at hz_a); first | (simp [cq_even, hz_a, h1j_b, hcj_b]; done) | (simp [cq_even, hz_a, h1j_b, hcj_b]; done) | (exfalso; clear hend ; simp_all; done)), rfl⟩ rfl dX11_even_38
  · subst e_a
    have h1j_a := cs_st_1 hs hj_a
    have hcj_a : (nI j_a).toNatClampNeg = j_a := nI_clamp (by omega)
    refine lv_astore (lv' := [(4, .ref (ad (2 + j_a))), (0, .ref (oa 0)), (1, .int (nI j_a)), (2, .int (b)), (3, .int (what))]) hx hb dX11_even_5 hl (by decide) rfl (fun ls hl => ?_)
    refine lv_aload_n hx hb dX11_even_7 rfl (lv_at hl 1 rfl) ?_
    refine lv_iload_n hx hb dX11_even_8 rfl (lv_at hl 3 rfl) ?_
    refine hg_vqF (r := cs_sa ad g b) (As := [.int (b)]) (rest := []) X w (c_X11_stallAt l D b0 L f oa C im mk ad n g hm hs ho b) (cwV 1 hts gX11_even_X11_stallAt rfl rfl rfl hdX11_stallAt ⟨Nat.le_of_ble_eq_true rfl, Nat.le_of_ble_eq_true rfl⟩) (ho.1 0 (by decide)).1 (ow_at ho (k := 0) (by decide)) rfl rfl rfl hl.1 rfl (Nat.le_of_ble_eq_true rfl) dX11_even_9 ⟨Nat.zero_le _, Nat.zero_le _⟩ (fun H locs w => ?_)
    refine ob_qs hs (fun hz_b => ?_) (fun j_b hj_b e_b => ?_)
    · refine lv_astoreN (lv' := [(5, .null), (4, .ref (ad (2 + j_a))), (0, .ref (oa 0)), (1, .int (nI j_a)), (2, .int (b)), (3, .int (what))]) hx hb dX11_even_12 hl (by decide) rfl (fun ls hl => ?_)
      refine lv_aload hx hb dX11_even_14 (lv_at hl 1 rfl) ?_
      refine lv_ifnull hx hb dX11_even_16 ?_
      refine lv_aloadN hx hb dX11_even_19 (lv_at hl 0 rfl) ?_
      refine lv_ifnullN (tgt := 36) hx hb dX11_even_21 (by decide) ?_
      refine lv_ldc (v := (-1000001)) hx hb hown (hts _ (List.mem_of_getElem? (i := 1) rfl)) dX11_even_36 ?_
      exact hend H locs ((-1000001)) (L, ob_W D f oa C mk im mk ad n g) _ ls w ⟨(by (try simp only [lg_cmp_le, lg_cmp_ge, lg_cmp_lt, lg_cmp_gt, hs_if10, ← Int32.not_lt, ← Int64.not_lt, Classical.not_not] at hz_b); first | (simp [cq_even, hz_b, h1j_a, hcj_a]; done) | (simp [cq_even, hz_b, h1j_a, hcj_a]; done) | (exfalso; clear hend ; simp_all; done)), rfl⟩ rfl dX11_even_38
    · subst e_b
      have h1j_b := cs_st_1 hs hj_b
      have hcj_b : (nI j_b).toNatClampNeg = j_b := nI_clamp (by omega)
      refine lv_astore (lv' := [(5, .ref (ad (2 + j_b))), (4, .ref (ad (2 + j_a))), (0, .ref (oa 0)), (1, .int (nI j_a)), (2, .int (nI j_b)), (3, .int (what))]) hx hb dX11_even_12 hl (by decide) rfl (fun ls hl => ?_)
      refine lv_aload hx hb dX11_even_14 (lv_at hl 1 rfl) ?_
      refine lv_ifnull hx hb dX11_even_16 ?_
      refine lv_aload hx hb dX11_even_19 (lv_at hl 0 rfl) ?_
      refine lv_ifnull hx hb dX11_even_21 ?_
      refine lv_iload_n hx hb dX11_even_24 rfl (lv_at hl 3 rfl) ?_
      refine lv_iload_n hx hb dX11_even_25 rfl (lv_at hl 4 rfl) ?_
      refine lv_icmp_eq (tgt := 36) hx hb dX11_even_26 (by decide) (fun c_26 => ?_) (fun c_26 => ?_)
      · refine lv_ldc (v := (-1000001)) hx hb hown (hts _ (List.mem_of_getElem? (i := 1) rfl)) dX11_even_36 ?_
        exact hend H locs ((-1000001)) (L, ob_W D f oa C mk im mk ad n g) _ ls w ⟨(by (try simp only [lg_cmp_le, lg_cmp_ge, lg_cmp_lt, lg_cmp_gt, hs_if10, ← Int32.not_lt, ← Int64.not_lt, Classical.not_not] at c_26); first | (simp [cq_even, c_26, h1j_a, hcj_a, h1j_b, hcj_b]; done) | (simp [cq_even, eq_true c_26, h1j_a, hcj_a, h1j_b, hcj_b]; done) | (exfalso; clear hend ; simp_all; done)), rfl⟩ rfl dX11_even_38
      · refine lv_iload_n hx hb dX11_even_29 rfl (lv_at hl 5 rfl) ?_
        refine hg_siF (r := (if hs_in what 0 1 = 0 then 1 else 0)) (As := [.int (what)]) (rest := []) X w (c_X11_isNoBit l D b0 L f oa C im mk ad n g hm hs ho what) (va_cwS 1 hts gX11_even_X11_isNoBit rfl rfl rfl hdX11_isNoBit ⟨Nat.le_of_ble_eq_true rfl, Nat.le_of_ble_eq_true rfl⟩) rfl hl.1 rfl (Nat.le_of_ble_eq_true rfl) dX11_even_30 ⟨Nat.zero_le _, Nat.zero_le _⟩ (fun H locs w => ?_)
        refine lv_if_eq (tgt := 39) hx hb dX11_even_33 (by decide) (fun c_33 => ?_) (fun c_33 => ?_)
        · refine lv_aload_n hx hb dX11_even_39 rfl (lv_at hl 2 rfl) ?_
          refine ob_get X w ho 0 (by decide) (C0 := RX11) (T := TX11) (N := 12) (ci := 9) rfl hin11 rfl 9 (by decide) (List.mem_of_getElem? (i := 2) rfl) rfl rfl dX11_even_40 ?_
          refine lv_aload hx hb dX11_even_43 (lv_at hl 1 rfl) ?_
          refine lv_aload hx hb dX11_even_45 (lv_at hl 0 rfl) ?_
          refine hg_viF (r := (mk_joins g j_a j_b)) (As := [.ref (ad (2 + j_a)), .ref (ad (2 + j_b))]) (rest := []) X w (c_X3_joins l D b0 L (ob_F D f oa C mk im) mk ad n g hm hs j_a j_b hj_a hj_b) (cwV 2 hts gX11_even_X3_joins rfl rfl rfl hdX3_joins ⟨Nat.le_of_ble_eq_true rfl, Nat.le_of_ble_eq_true rfl⟩) hm.1 (mk_at0 D _ mk ad n _) rfl rfl rfl hl.1 rfl (Nat.le_of_ble_eq_true rfl) dX11_even_47 ⟨Nat.zero_le _, Nat.zero_le _⟩ (fun H locs w => ?_)
          refine lv_if_ne (tgt := 56) hx hb dX11_even_50 (by decide) (fun c_50 => ?_) (fun c_50 => ?_)
          · refine lv_aload_n hx hb dX11_even_56 rfl (lv_at hl 2 rfl) ?_
            refine ob_get X w ho 0 (by decide) (C0 := RX11) (T := TX11) (N := 12) (ci := 9) rfl hin11 rfl 9 (by decide) (List.mem_of_getElem? (i := 2) rfl) rfl rfl dX11_even_57 ?_
            refine lv_aload hx hb dX11_even_60 (lv_at hl 1 rfl) ?_
            refine lv_aload hx hb dX11_even_62 (lv_at hl 0 rfl) ?_
            refine lv_iload_n hx hb dX11_even_64 rfl (lv_at hl 5 rfl) ?_
            refine hg_siF (r := (mk_ev g n j_a j_b what 19)) (As := [.ref mk, .ref (ad (2 + j_a)), .ref (ad (2 + j_b)), .int (what)]) (rest := []) X w (c_X1_fewestGirls l D b0 L (ob_F D f oa C mk im) mk ad n g hm hs nr ht j_a j_b hj_a hj_b (fun q => c_26 (by rw [q])) what) (va_cwS 4 hts gX11_even_X1_fewestGirls rfl rfl rfl hdX1_fewestGirls ⟨Nat.le_of_ble_eq_true rfl, Nat.le_of_ble_eq_true rfl⟩) rfl hl.1 rfl (Nat.le_of_ble_eq_true rfl) dX11_even_65 ⟨Nat.zero_le _, Nat.zero_le _⟩ (fun H locs w => ?_)
            exact hend H locs ((mk_ev g n j_a j_b what 19)) (L, ob_W D f oa C mk im mk ad n g) _ ls w ⟨(by (try simp only [lg_cmp_le, lg_cmp_ge, lg_cmp_lt, lg_cmp_gt, hs_if10, ← Int32.not_lt, ← Int64.not_lt, Classical.not_not] at c_26 c_33 c_50); first | (simp [cq_even, c_26, c_33, c_50, h1j_a, hcj_a, h1j_b, hcj_b]; done) | (simp [cq_even, c_26, eq_true c_33, c_50, h1j_a, hcj_a, h1j_b, hcj_b]; done) | (exfalso; clear hend ; simp_all; done)), rfl⟩ rfl dX11_even_68
          · refine lv_ldc (v := (-1000002)) hx hb hown (hts _ (List.mem_of_getElem? (i := 3) rfl)) dX11_even_53 ?_
            exact hend H locs ((-1000002)) (L, ob_W D f oa C mk im mk ad n g) _ ls w ⟨(by (try simp only [lg_cmp_le, lg_cmp_ge, lg_cmp_lt, lg_cmp_gt, hs_if10, ← Int32.not_lt, ← Int64.not_lt, Classical.not_not] at c_26 c_33 c_50); first | (simp [cq_even, c_26, c_33, c_50, h1j_a, hcj_a, h1j_b, hcj_b]; done) | (simp [cq_even, c_26, eq_true c_33, eq_true c_50, h1j_a, hcj_a, h1j_b, hcj_b]; done) | (exfalso; clear hend ; simp_all; done)), rfl⟩ rfl dX11_even_55
        · refine lv_ldc (v := (-1000001)) hx hb hown (hts _ (List.mem_of_getElem? (i := 1) rfl)) dX11_even_36 ?_
          exact hend H locs ((-1000001)) (L, ob_W D f oa C mk im mk ad n g) _ ls w ⟨(by (try simp only [lg_cmp_le, lg_cmp_ge, lg_cmp_lt, lg_cmp_gt, hs_if10, ← Int32.not_lt, ← Int64.not_lt, Classical.not_not] at c_26 c_33); first | (simp [cq_even, c_26, c_33, h1j_a, hcj_a, h1j_b, hcj_b]; done) | (simp [cq_even, c_26, c_33, h1j_a, hcj_a, h1j_b, hcj_b]; done) | (exfalso; clear hend ; simp_all; done)), rfl⟩ rfl dX11_even_38
theorem hdX1_slideToMeet : yX1_slideToMeet.cls ≠ "java/lang/invoke/MethodHandle" ∧ yX1_slideToMeet.cls ≠ "java/lang/invoke/VarHandle" ∧ (parseMethodDescriptor yX1_slideToMeet.desc).map (fun d => d.parameters.length) = some 2 := by decide +kernel
set_option maxRecDepth 100000 in
set_option maxHeartbeats 4000000 in
theorem c_X11_bestSlide (l : Launch) (D : va_G) (b0 : Nat) (L : List Nat) (f : Nat → va_E) (oa : Nat → Nat) (C : Nat → Nat → Int32) (im : Nat → Option Nat) (mk : Nat) (ad : Nat → Nat) (n : Nat) (g : Nat → Int32) (hm : mk_ok L mk ad n) (hs : mk_sr g n) (ho : ob_ok L oa mk ad n) (nr : Nat) (ht : mk_t g nr) (what : Int32) : hg_Fi l yX11_bestSlide wsX11_bestSlide ({ frames := 7, cells := 0, slots := 0, locals := 172 }) D b0 L (ob_W D f oa C mk im mk ad n g) [.ref (oa 0), .int (what)] (cq_best g n what) (ob_W D f oa C mk im mk ad n g) := by
  refine hg_in_i (cc := cX11_bestSlide) (nL := 2) (by decide) rfl (Nat.le_of_ble_eq_true rfl) (fun p e s m args below meth c R Q X hR hend H locs ls w hl => ?_)
  subst hR
  obtain ⟨hx, hb, hml, hown, hts⟩ := id X.1
  have hin : mk_in wsX11_bestSlide := ⟨fun w h => List.mem_cons_of_mem _ (List.mem_append_left _ (List.mem_append_left _ (List.mem_append_left _ (List.mem_append_left _ (List.mem_append_right _ h))))), fun w h => List.mem_cons_of_mem _ (List.mem_append_left _ (List.mem_append_left _ (List.mem_append_left _ (List.mem_append_right _ h)))), fun w h => List.mem_cons_of_mem _ (List.mem_append_left _ (List.mem_append_left _ (List.mem_append_right _ h))), fun w h => List.mem_cons_of_mem _ (List.mem_append_left _ (List.mem_append_right _ h)), fun w h => List.mem_cons_of_mem _ (List.mem_append_right _ h)⟩
  have hin3 : ∀ w ∈ wsX30, w ∈ wsX11_bestSlide := fun w h => List.mem_cons_of_mem _ (List.mem_append_left _ (List.mem_append_left _ (List.mem_append_left _ (List.mem_append_left _ (List.mem_append_left _ (List.mem_append_right _ h))))))
  have hin11 : ∀ w ∈ wsX110, w ∈ wsX11_bestSlide := fun w h => List.mem_cons_of_mem _ (List.mem_append_left _ (List.mem_append_left _ (List.mem_append_left _ (List.mem_append_left _ (List.mem_append_left _ (List.mem_append_left _ (List.mem_append_right _ h)))))))
  have hl : lv_has ls 2 [(0, .ref (oa 0)), (1, .int (what))] := hl
  have hn6 := hs.2.1
  refine lv_aload_n hx hb dX11_bestSlide_0 rfl (lv_at hl 0 rfl) ?_
  refine hg_viF (r := (if g 2 = 0 then 1 else 0)) (As := []) (rest := []) X w (c_X11_noMarket l D b0 L f oa C im mk ad n g hm hs ho ) (cwV 0 hts gX11_bestSlide_X11_noMarket rfl rfl rfl hdX11_noMarket ⟨Nat.le_of_ble_eq_true rfl, Nat.le_of_ble_eq_true rfl⟩) (ho.1 0 (by decide)).1 (ow_at ho (k := 0) (by decide)) rfl rfl rfl hl.1 rfl (Nat.le_of_ble_eq_true rfl) dX11_bestSlide_1 ⟨Nat.zero_le _, Nat.zero_le _⟩ (fun H locs w => ?_)
  refine lv_if_eq (tgt := 10) hx hb dX11_bestSlide_4 (by decide) (fun c_4 => ?_) (fun c_4 => ?_)
  · refine lv_iload_n hx hb dX11_bestSlide_10 rfl (lv_at hl 1 rfl) ?_
    refine hg_siF (r := (if hs_in what 0 1 = 0 then 1 else 0)) (As := [.int (what)]) (rest := []) X w (c_X11_isNoBit l D b0 L f oa C im mk ad n g hm hs ho what) (va_cwS 1 hts gX11_bestSlide_X11_isNoBit rfl rfl rfl hdX11_isNoBit ⟨Nat.le_of_ble_eq_true rfl, Nat.le_of_ble_eq_true rfl⟩) rfl hl.1 rfl (Nat.le_of_ble_eq_true rfl) dX11_bestSlide_11 ⟨Nat.zero_le _, Nat.zero_le _⟩ (fun H locs w => ?_)
    refine lv_if_eq (tgt := 20) hx hb dX11_bestSlide_14 (by decide) (fun c_14 => ?_) (fun c_14 => ?_)
    · refine lv_aload_n hx hb dX11_bestSlide_20 rfl (lv_at hl 0 rfl) ?_
      refine ob_get X w ho 0 (by decide) (C0 := RX11) (T := TX11) (N := 12) (ci := 9) rfl hin11 rfl 9 (by decide) (List.mem_of_getElem? (i := 3) rfl) rfl rfl dX11_bestSlide_21 ?_
      refine lv_iload_n hx hb dX11_bestSlide_24 rfl (lv_at hl 1 rfl) ?_
      refine hg_siF (r := (if what = 0 then (mk_sl g n n).1 else (mk_sl g n n).2)) (As := [.ref mk, .int (what)]) (rest := []) X w (c_X1_slideToMeet l D b0 L (ob_F D f oa C mk im) mk ad n g hm hs nr ht what) (va_cwS 2 hts gX11_bestSlide_X1_slideToMeet rfl rfl rfl hdX1_slideToMeet ⟨Nat.le_of_ble_eq_true rfl, Nat.le_of_ble_eq_true rfl⟩) rfl hl.1 rfl (Nat.le_of_ble_eq_true rfl) dX11_bestSlide_25 ⟨Nat.zero_le _, Nat.zero_le _⟩ (fun H locs w => ?_)
      exact hend H locs ((if what = 0 then (mk_sl g n n).1 else (mk_sl g n n).2)) (L, ob_W D f oa C mk im mk ad n g) _ ls w ⟨(by (try simp only [lg_cmp_le, lg_cmp_ge, lg_cmp_lt, lg_cmp_gt, hs_if10, ← Int32.not_lt, ← Int64.not_lt, Classical.not_not] at c_4 c_14); first | (simp [cq_best, c_4, c_14]; done) | (simp [cq_best, eq_true c_4, eq_true c_14]; done) | (exfalso; clear hend ; simp_all; done)), rfl⟩ rfl dX11_bestSlide_28
    · refine lv_ldc (v := (-1000001)) hx hb hown (hts _ (List.mem_of_getElem? (i := 2) rfl)) dX11_bestSlide_17 ?_
      exact hend H locs ((-1000001)) (L, ob_W D f oa C mk im mk ad n g) _ ls w ⟨(by (try simp only [lg_cmp_le, lg_cmp_ge, lg_cmp_lt, lg_cmp_gt, hs_if10, ← Int32.not_lt, ← Int64.not_lt, Classical.not_not] at c_4 c_14); first | (simp [cq_best, c_4, c_14]; done) | (simp [cq_best, eq_true c_4, c_14]; done) | (exfalso; clear hend ; simp_all; done)), rfl⟩ rfl dX11_bestSlide_19
  · refine lv_ldc (v := (-1000002)) hx hb hown (hts _ (List.mem_of_getElem? (i := 1) rfl)) dX11_bestSlide_7 ?_
    exact hend H locs ((-1000002)) (L, ob_W D f oa C mk im mk ad n g) _ ls w ⟨(by (try simp only [lg_cmp_le, lg_cmp_ge, lg_cmp_lt, lg_cmp_gt, hs_if10, ← Int32.not_lt, ← Int64.not_lt, Classical.not_not] at c_4); first | (simp [cq_best, c_4]; done) | (simp [cq_best, c_4]; done) | (exfalso; clear hend ; simp_all; done)), rfl⟩ rfl dX11_bestSlide_9
theorem hdX1_goodsInBox : yX1_goodsInBox.cls ≠ "java/lang/invoke/MethodHandle" ∧ yX1_goodsInBox.cls ≠ "java/lang/invoke/VarHandle" ∧ (parseMethodDescriptor yX1_goodsInBox.desc).map (fun d => d.parameters.length) = some 4 := by decide +kernel
set_option maxRecDepth 100000 in
set_option maxHeartbeats 4000000 in
theorem c_X11_box (l : Launch) (D : va_G) (b0 : Nat) (L : List Nat) (f : Nat → va_E) (oa : Nat → Nat) (C : Nat → Nat → Int32) (im : Nat → Option Nat) (mk : Nat) (ad : Nat → Nat) (n : Nat) (g : Nat → Int32) (hm : mk_ok L mk ad n) (hs : mk_sr g n) (ho : ob_ok L oa mk ad n) (nr : Nat) (ht : mk_t g nr) (s0 depth what : Int32) : hg_Fi l yX11_box wsX11_box ({ frames := 5, cells := 0, slots := 0, locals := 117 }) D b0 L (ob_W D f oa C mk im mk ad n g) [.ref (oa 0), .int (s0), .int (depth), .int (what)] (q_box g n s0 depth what) (ob_W D f oa C mk im mk ad n g) := by
  refine hg_in_i (cc := cX11_box) (nL := 5) (by decide) rfl (Nat.le_of_ble_eq_true rfl) (fun p e s m args below meth c R Q X hR hend H locs ls w hl => ?_)
  subst hR
  obtain ⟨hx, hb, hml, hown, hts⟩ := id X.1
  have hin : mk_in wsX11_box := ⟨fun w h => List.mem_cons_of_mem _ (List.mem_append_left _ (List.mem_append_left _ (List.mem_append_left _ (List.mem_append_left _ (List.mem_append_right _ h))))), fun w h => List.mem_cons_of_mem _ (List.mem_append_left _ (List.mem_append_left _ (List.mem_append_left _ (List.mem_append_right _ h)))), fun w h => List.mem_cons_of_mem _ (List.mem_append_left _ (List.mem_append_left _ (List.mem_append_right _ h))), fun w h => List.mem_cons_of_mem _ (List.mem_append_left _ (List.mem_append_right _ h)), fun w h => List.mem_cons_of_mem _ (List.mem_append_right _ h)⟩
  have hin3 : ∀ w ∈ wsX30, w ∈ wsX11_box := fun w h => List.mem_cons_of_mem _ (List.mem_append_left _ (List.mem_append_left _ (List.mem_append_left _ (List.mem_append_left _ (List.mem_append_left _ (List.mem_append_right _ h))))))
  have hin11 : ∀ w ∈ wsX110, w ∈ wsX11_box := fun w h => List.mem_cons_of_mem _ (List.mem_append_left _ (List.mem_append_left _ (List.mem_append_left _ (List.mem_append_left _ (List.mem_append_left _ (List.mem_append_left _ (List.mem_append_right _ h)))))))
  have hl : lv_has ls 5 [(0, .ref (oa 0)), (1, .int (s0)), (2, .int (depth)), (3, .int (what))] := hl
  have hn6 := hs.2.1
  refine lv_aload_n hx hb dX11_box_0 rfl (lv_at hl 0 rfl) ?_
  refine lv_iload_n hx hb dX11_box_1 rfl (lv_at hl 1 rfl) ?_
  refine hg_vqF (r := cs_sa ad g s0) (As := [.int (s0)]) (rest := []) X w (c_X11_stallAt l D b0 L f oa C im mk ad n g hm hs ho s0) (cwV 1 hts gX11_box_X11_stallAt rfl rfl rfl hdX11_stallAt ⟨Nat.le_of_ble_eq_true rfl, Nat.le_of_ble_eq_true rfl⟩) (ho.1 0 (by decide)).1 (ow_at ho (k := 0) (by decide)) rfl rfl rfl hl.1 rfl (Nat.le_of_ble_eq_true rfl) dX11_box_2 ⟨Nat.zero_le _, Nat.zero_le _⟩ (fun H locs w => ?_)
  refine ob_qs hs (fun hz_s0 => ?_) (fun j_s0 hj_s0 e_s0 => ?_)
  · refine lv_astoreN (lv' := [(4, .null), (0, .ref (oa 0)), (1, .int (s0)), (2, .int (depth)), (3, .int (what))]) hx hb dX11_box_5 hl (by decide) rfl (fun ls hl => ?_)
    refine lv_aloadN hx hb dX11_box_7 (lv_at hl 0 rfl) ?_
    refine lv_ifnullN (tgt := 33) hx hb dX11_box_9 (by decide) ?_
    refine lv_ldc (v := (-1000001)) hx hb hown (hts _ (List.mem_of_getElem? (i := 1) rfl)) dX11_box_33 ?_
    exact hend H locs ((-1000001)) (L, ob_W D f oa C mk im mk ad n g) _ ls w ⟨(by (try simp only [lg_cmp_le, lg_cmp_ge, lg_cmp_lt, lg_cmp_gt, hs_if10, ← Int32.not_lt, ← Int64.not_lt, Classical.not_not] at hz_s0); first | (simp [q_box, hs_inX depth (-9999) 9999, hz_s0]; done) | (simp [q_box, hs_inX depth (-9999) 9999, hz_s0]; done) | (exfalso; clear hend ; simp_all; done)), rfl⟩ rfl dX11_box_35
  · subst e_s0
    have h1j_s0 := cs_st_1 hs hj_s0
    have hcj_s0 : (nI j_s0).toNatClampNeg = j_s0 := nI_clamp (by omega)
    refine lv_astore (lv' := [(4, .ref (ad (2 + j_s0))), (0, .ref (oa 0)), (1, .int (nI j_s0)), (2, .int (depth)), (3, .int (what))]) hx hb dX11_box_5 hl (by decide) rfl (fun ls hl => ?_)
    refine lv_aload hx hb dX11_box_7 (lv_at hl 0 rfl) ?_
    refine lv_ifnull hx hb dX11_box_9 ?_
    refine lv_iload_n hx hb dX11_box_12 rfl (lv_at hl 3 rfl) ?_
    refine lv_sipush (v := (-9999)) hx hb dX11_box_13 (by decide) ?_
    refine lv_icmp_lt (tgt := 33) hx hb dX11_box_16 (by decide) (fun c_16 => ?_) (fun c_16 => ?_)
    · refine lv_ldc (v := (-1000001)) hx hb hown (hts _ (List.mem_of_getElem? (i := 1) rfl)) dX11_box_33 ?_
      exact hend H locs ((-1000001)) (L, ob_W D f oa C mk im mk ad n g) _ ls w ⟨(by (try simp only [lg_cmp_le, lg_cmp_ge, lg_cmp_lt, lg_cmp_gt, hs_if10, ← Int32.not_lt, ← Int64.not_lt, Classical.not_not] at c_16); first | (simp [q_box, hs_inX depth (-9999) 9999, c_16, h1j_s0, hcj_s0]; done) | (simp [q_box, hs_inX depth (-9999) 9999, c_16, h1j_s0, hcj_s0]; done) | (exfalso; clear hend ; simp_all; done)), rfl⟩ rfl dX11_box_35
    · refine lv_iload_n hx hb dX11_box_19 rfl (lv_at hl 3 rfl) ?_
      refine lv_sipush (v := 9999) hx hb dX11_box_20 (by decide) ?_
      refine lv_icmp_gt (tgt := 33) hx hb dX11_box_23 (by decide) (fun c_23 => ?_) (fun c_23 => ?_)
      · refine lv_ldc (v := (-1000001)) hx hb hown (hts _ (List.mem_of_getElem? (i := 1) rfl)) dX11_box_33 ?_
        exact hend H locs ((-1000001)) (L, ob_W D f oa C mk im mk ad n g) _ ls w ⟨(by (try simp only [lg_cmp_le, lg_cmp_ge, lg_cmp_lt, lg_cmp_gt, hs_if10, ← Int32.not_lt, ← Int64.not_lt, Classical.not_not] at c_16 c_23); first | (simp [q_box, hs_inX depth (-9999) 9999, c_16, c_23, h1j_s0, hcj_s0]; done) | (simp [q_box, hs_inX depth (-9999) 9999, c_16, c_23, h1j_s0, hcj_s0]; done) | (exfalso; clear hend ; simp_all; done)), rfl⟩ rfl dX11_box_35
      · refine lv_iload_n hx hb dX11_box_26 rfl (lv_at hl 4 rfl) ?_
        refine hg_siF (r := (if hs_in what 0 1 = 0 then 1 else 0)) (As := [.int (what)]) (rest := []) X w (c_X11_isNoBit l D b0 L f oa C im mk ad n g hm hs ho what) (va_cwS 1 hts gX11_box_X11_isNoBit rfl rfl rfl hdX11_isNoBit ⟨Nat.le_of_ble_eq_true rfl, Nat.le_of_ble_eq_true rfl⟩) rfl hl.1 rfl (Nat.le_of_ble_eq_true rfl) dX11_box_27 ⟨Nat.zero_le _, Nat.zero_le _⟩ (fun H locs w => ?_)
        refine lv_if_eq (tgt := 36) hx hb dX11_box_30 (by decide) (fun c_30 => ?_) (fun c_30 => ?_)
        · refine lv_aload_n hx hb dX11_box_36 rfl (lv_at hl 1 rfl) ?_
          refine ob_get X w ho 0 (by decide) (C0 := RX11) (T := TX11) (N := 12) (ci := 9) rfl hin11 rfl 9 (by decide) (List.mem_of_getElem? (i := 2) rfl) rfl rfl dX11_box_37 ?_
          refine lv_aload hx hb dX11_box_40 (lv_at hl 0 rfl) ?_
          refine lv_iload_n hx hb dX11_box_42 rfl (lv_at hl 3 rfl) ?_
          refine lv_iload_n hx hb dX11_box_43 rfl (lv_at hl 4 rfl) ?_
          refine hg_siF (r := (if what = 0 then hs_boxL g n j_s0 depth 21 else hs_boxM g n j_s0 depth 21)) (As := [.ref mk, .ref (ad (2 + j_s0)), .int (depth), .int (what)]) (rest := []) X w (c_X1_goodsInBox l D b0 L (ob_F D f oa C mk im) mk ad n g hm hs nr ht j_s0 hj_s0 depth what) (va_cwS 4 hts gX11_box_X1_goodsInBox rfl rfl rfl hdX1_goodsInBox ⟨Nat.le_of_ble_eq_true rfl, Nat.le_of_ble_eq_true rfl⟩) rfl hl.1 rfl (Nat.le_of_ble_eq_true rfl) dX11_box_44 ⟨Nat.zero_le _, Nat.zero_le _⟩ (fun H locs w => ?_)
          exact hend H locs ((if what = 0 then hs_boxL g n j_s0 depth 21 else hs_boxM g n j_s0 depth 21)) (L, ob_W D f oa C mk im mk ad n g) _ ls w ⟨(by (try simp only [lg_cmp_le, lg_cmp_ge, lg_cmp_lt, lg_cmp_gt, hs_if10, ← Int32.not_lt, ← Int64.not_lt, Classical.not_not] at c_16 c_23 c_30); first | (simp [q_box, hs_inX depth (-9999) 9999, c_16, c_23, c_30, h1j_s0, hcj_s0]; done) | (simp [q_box, hs_inX depth (-9999) 9999, c_16, c_23, eq_true c_30, h1j_s0, hcj_s0]; done) | (exfalso; clear hend ; simp_all; done)), rfl⟩ rfl dX11_box_47
        · refine lv_ldc (v := (-1000001)) hx hb hown (hts _ (List.mem_of_getElem? (i := 1) rfl)) dX11_box_33 ?_
          exact hend H locs ((-1000001)) (L, ob_W D f oa C mk im mk ad n g) _ ls w ⟨(by (try simp only [lg_cmp_le, lg_cmp_ge, lg_cmp_lt, lg_cmp_gt, hs_if10, ← Int32.not_lt, ← Int64.not_lt, Classical.not_not] at c_16 c_23 c_30); first | (simp [q_box, hs_inX depth (-9999) 9999, c_16, c_23, c_30, h1j_s0, hcj_s0]; done) | (simp [q_box, hs_inX depth (-9999) 9999, c_16, c_23, c_30, h1j_s0, hcj_s0]; done) | (exfalso; clear hend ; simp_all; done)), rfl⟩ rfl dX11_box_35
theorem hdX1_leastTaut : yX1_leastTaut.cls ≠ "java/lang/invoke/MethodHandle" ∧ yX1_leastTaut.cls ≠ "java/lang/invoke/VarHandle" ∧ (parseMethodDescriptor yX1_leastTaut.desc).map (fun d => d.parameters.length) = some 2 := by decide +kernel
set_option maxRecDepth 100000 in
set_option maxHeartbeats 4000000 in
theorem c_X11_holds (l : Launch) (D : va_G) (b0 : Nat) (L : List Nat) (f : Nat → va_E) (oa : Nat → Nat) (C : Nat → Nat → Int32) (im : Nat → Option Nat) (mk : Nat) (ad : Nat → Nat) (n : Nat) (g : Nat → Int32) (hm : mk_ok L mk ad n) (hs : mk_sr g n) (ho : ob_ok L oa mk ad n) (nr : Nat) (ht : mk_t g nr) (rope : Int32) : hg_Fi l yX11_holds wsX11_holds ({ frames := 6, cells := 0, slots := 0, locals := 138 }) D b0 L (ob_W D f oa C mk im mk ad n g) [.ref (oa 0), .int (rope)] (cq_holds g n rope) (ob_W D f oa C mk im mk ad n g) := by
  refine hg_in_i (cc := cX11_holds) (nL := 2) (by decide) rfl (Nat.le_of_ble_eq_true rfl) (fun p e s m args below meth c R Q X hR hend H locs ls w hl => ?_)
  subst hR
  obtain ⟨hx, hb, hml, hown, hts⟩ := id X.1
  have hin : mk_in wsX11_holds := ⟨fun w h => List.mem_cons_of_mem _ (List.mem_append_left _ (List.mem_append_left _ (List.mem_append_left _ (List.mem_append_left _ (List.mem_append_right _ h))))), fun w h => List.mem_cons_of_mem _ (List.mem_append_left _ (List.mem_append_left _ (List.mem_append_left _ (List.mem_append_right _ h)))), fun w h => List.mem_cons_of_mem _ (List.mem_append_left _ (List.mem_append_left _ (List.mem_append_right _ h))), fun w h => List.mem_cons_of_mem _ (List.mem_append_left _ (List.mem_append_right _ h)), fun w h => List.mem_cons_of_mem _ (List.mem_append_right _ h)⟩
  have hin3 : ∀ w ∈ wsX30, w ∈ wsX11_holds := fun w h => List.mem_cons_of_mem _ (List.mem_append_left _ (List.mem_append_left _ (List.mem_append_left _ (List.mem_append_left _ (List.mem_append_left _ (List.mem_append_right _ h))))))
  have hin11 : ∀ w ∈ wsX110, w ∈ wsX11_holds := fun w h => List.mem_cons_of_mem _ (List.mem_append_left _ (List.mem_append_left _ (List.mem_append_left _ (List.mem_append_left _ (List.mem_append_left _ (List.mem_append_left _ (List.mem_append_right _ h)))))))
  have hl : lv_has ls 2 [(0, .ref (oa 0)), (1, .int (rope))] := hl
  have hn6 := hs.2.1
  refine lv_aload_n hx hb dX11_holds_0 rfl (lv_at hl 0 rfl) ?_
  refine lv_iload_n hx hb dX11_holds_1 rfl (lv_at hl 1 rfl) ?_
  refine hg_viF (r := (if hs_isRo g rope = 0 then 1 else 0)) (As := [.int (rope)]) (rest := []) X w (c_X11_noRope l D b0 L f oa C im mk ad n g hm hs ho nr ht rope) (cwV 1 hts gX11_holds_X11_noRope rfl rfl rfl hdX11_noRope ⟨Nat.le_of_ble_eq_true rfl, Nat.le_of_ble_eq_true rfl⟩) (ho.1 0 (by decide)).1 (ow_at ho (k := 0) (by decide)) rfl rfl rfl hl.1 rfl (Nat.le_of_ble_eq_true rfl) dX11_holds_2 ⟨Nat.zero_le _, Nat.zero_le _⟩ (fun H locs w => ?_)
  refine lv_if_eq (tgt := 13) hx hb dX11_holds_5 (by decide) (fun c_5 => ?_) (fun c_5 => ?_)
  · obtain ⟨r, hr, rfl⟩ := hs_ro_1 (mk_ok_of hs ht) (hs_if0 c_5)
    have hnr := ht.2.1
    have hro1 := cs_ro_1 ht hr
    have hcr : (nI r).toNatClampNeg = r := nI_clamp (by omega)
    refine lv_aload_n hx hb dX11_holds_13 rfl (lv_at hl 0 rfl) ?_
    refine ob_get X w ho 0 (by decide) (C0 := RX11) (T := TX11) (N := 12) (ci := 9) rfl hin11 rfl 9 (by decide) (List.mem_of_getElem? (i := 2) rfl) rfl rfl dX11_holds_14 ?_
    refine lv_iload_n hx hb dX11_holds_17 rfl (lv_at hl 1 rfl) ?_
    refine hg_siF (r := (mk_lt g n r 40)) (As := [.ref mk, .int (nI r)]) (rest := []) X w (c_X1_leastTaut l D b0 L (ob_F D f oa C mk im) mk ad n g hm hs nr ht r hr) (va_cwS 2 hts gX11_holds_X1_leastTaut rfl rfl rfl hdX1_leastTaut ⟨Nat.le_of_ble_eq_true rfl, Nat.le_of_ble_eq_true rfl⟩) rfl hl.1 rfl (Nat.le_of_ble_eq_true rfl) dX11_holds_18 ⟨Nat.zero_le _, Nat.zero_le _⟩ (fun H locs w => ?_)
    exact hend H locs ((mk_lt g n r 40)) (L, ob_W D f oa C mk im mk ad n g) _ ls w ⟨(by (try simp only [lg_cmp_le, lg_cmp_ge, lg_cmp_lt, lg_cmp_gt, hs_if10, ← Int32.not_lt, ← Int64.not_lt, Classical.not_not] at c_5); first | (simp [cq_holds, c_5, hro1, hcr]; done) | (simp [cq_holds, eq_true c_5, hro1, hcr]; done) | (exfalso; clear hend ; simp_all; done)), rfl⟩ rfl dX11_holds_21
  · refine lv_ldc (v := (-1000001)) hx hb hown (hts _ (List.mem_of_getElem? (i := 1) rfl)) dX11_holds_8 ?_
    refine lv_goto (tgt := 21) hx hb dX11_holds_10 (by decide) ?_
    exact hend H locs ((-1000001)) (L, ob_W D f oa C mk im mk ad n g) _ ls w ⟨(by (try simp only [lg_cmp_le, lg_cmp_ge, lg_cmp_lt, lg_cmp_gt, hs_if10, ← Int32.not_lt, ← Int64.not_lt, Classical.not_not] at c_5); first | (simp [cq_holds, c_5]; done) | (simp [cq_holds, c_5]; done) | (exfalso; clear hend ; simp_all; done)), rfl⟩ rfl dX11_holds_21
theorem hdX1_rainsToDrop : yX1_rainsToDrop.cls ≠ "java/lang/invoke/MethodHandle" ∧ yX1_rainsToDrop.cls ≠ "java/lang/invoke/VarHandle" ∧ (parseMethodDescriptor yX1_rainsToDrop.desc).map (fun d => d.parameters.length) = some 2 := by decide +kernel
set_option maxRecDepth 100000 in
set_option maxHeartbeats 4000000 in
theorem c_X11_falls (l : Launch) (D : va_G) (b0 : Nat) (L : List Nat) (f : Nat → va_E) (oa : Nat → Nat) (C : Nat → Nat → Int32) (im : Nat → Option Nat) (mk : Nat) (ad : Nat → Nat) (n : Nat) (g : Nat → Int32) (hm : mk_ok L mk ad n) (hs : mk_sr g n) (ho : ob_ok L oa mk ad n) (nr : Nat) (ht : mk_t g nr) (what : Int32) : hg_Fi l yX11_falls wsX11_falls ({ frames := 6, cells := 0, slots := 0, locals := 139 }) D b0 L (ob_W D f oa C mk im mk ad n g) [.ref (oa 0), .int (what)] (cq_falls g n what) (ob_W D f oa C mk im mk ad n g) := by
  refine hg_in_i (cc := cX11_falls) (nL := 2) (by decide) rfl (Nat.le_of_ble_eq_true rfl) (fun p e s m args below meth c R Q X hR hend H locs ls w hl => ?_)
  subst hR
  obtain ⟨hx, hb, hml, hown, hts⟩ := id X.1
  have hin : mk_in wsX11_falls := ⟨fun w h => List.mem_cons_of_mem _ (List.mem_append_left _ (List.mem_append_left _ (List.mem_append_left _ (List.mem_append_left _ (List.mem_append_right _ h))))), fun w h => List.mem_cons_of_mem _ (List.mem_append_left _ (List.mem_append_left _ (List.mem_append_left _ (List.mem_append_right _ h)))), fun w h => List.mem_cons_of_mem _ (List.mem_append_left _ (List.mem_append_left _ (List.mem_append_right _ h))), fun w h => List.mem_cons_of_mem _ (List.mem_append_left _ (List.mem_append_right _ h)), fun w h => List.mem_cons_of_mem _ (List.mem_append_right _ h)⟩
  have hin3 : ∀ w ∈ wsX30, w ∈ wsX11_falls := fun w h => List.mem_cons_of_mem _ (List.mem_append_left _ (List.mem_append_left _ (List.mem_append_left _ (List.mem_append_left _ (List.mem_append_left _ (List.mem_append_right _ h))))))
  have hin11 : ∀ w ∈ wsX110, w ∈ wsX11_falls := fun w h => List.mem_cons_of_mem _ (List.mem_append_left _ (List.mem_append_left _ (List.mem_append_left _ (List.mem_append_left _ (List.mem_append_left _ (List.mem_append_left _ (List.mem_append_right _ h)))))))
  have hl : lv_has ls 2 [(0, .ref (oa 0)), (1, .int (what))] := hl
  have hn6 := hs.2.1
  refine lv_aload_n hx hb dX11_falls_0 rfl (lv_at hl 0 rfl) ?_
  refine hg_viF (r := (if g 2 = 0 then 1 else 0)) (As := []) (rest := []) X w (c_X11_noMarket l D b0 L f oa C im mk ad n g hm hs ho ) (cwV 0 hts gX11_falls_X11_noMarket rfl rfl rfl hdX11_noMarket ⟨Nat.le_of_ble_eq_true rfl, Nat.le_of_ble_eq_true rfl⟩) (ho.1 0 (by decide)).1 (ow_at ho (k := 0) (by decide)) rfl rfl rfl hl.1 rfl (Nat.le_of_ble_eq_true rfl) dX11_falls_1 ⟨Nat.zero_le _, Nat.zero_le _⟩ (fun H locs w => ?_)
  refine lv_if_eq (tgt := 10) hx hb dX11_falls_4 (by decide) (fun c_4 => ?_) (fun c_4 => ?_)
  · refine lv_iload_n hx hb dX11_falls_10 rfl (lv_at hl 1 rfl) ?_
    refine hg_siF (r := (if hs_in what 0 1 = 0 then 1 else 0)) (As := [.int (what)]) (rest := []) X w (c_X11_isNoBit l D b0 L f oa C im mk ad n g hm hs ho what) (va_cwS 1 hts gX11_falls_X11_isNoBit rfl rfl rfl hdX11_isNoBit ⟨Nat.le_of_ble_eq_true rfl, Nat.le_of_ble_eq_true rfl⟩) rfl hl.1 rfl (Nat.le_of_ble_eq_true rfl) dX11_falls_11 ⟨Nat.zero_le _, Nat.zero_le _⟩ (fun H locs w => ?_)
    refine lv_if_eq (tgt := 20) hx hb dX11_falls_14 (by decide) (fun c_14 => ?_) (fun c_14 => ?_)
    · refine lv_aload_n hx hb dX11_falls_20 rfl (lv_at hl 0 rfl) ?_
      refine ob_get X w ho 0 (by decide) (C0 := RX11) (T := TX11) (N := 12) (ci := 9) rfl hin11 rfl 9 (by decide) (List.mem_of_getElem? (i := 3) rfl) rfl rfl dX11_falls_21 ?_
      refine lv_iload_n hx hb dX11_falls_24 rfl (lv_at hl 1 rfl) ?_
      refine hg_siF (r := (mk_rd g n what 100)) (As := [.ref mk, .int (what)]) (rest := []) X w (c_X1_rainsToDrop l D b0 L (ob_F D f oa C mk im) mk ad n g hm hs nr ht what) (va_cwS 2 hts gX11_falls_X1_rainsToDrop rfl rfl rfl hdX1_rainsToDrop ⟨Nat.le_of_ble_eq_true rfl, Nat.le_of_ble_eq_true rfl⟩) rfl hl.1 rfl (Nat.le_of_ble_eq_true rfl) dX11_falls_25 ⟨Nat.zero_le _, Nat.zero_le _⟩ (fun H locs w => ?_)
      exact hend H locs ((mk_rd g n what 100)) (L, ob_W D f oa C mk im mk ad n g) _ ls w ⟨(by (try simp only [lg_cmp_le, lg_cmp_ge, lg_cmp_lt, lg_cmp_gt, hs_if10, ← Int32.not_lt, ← Int64.not_lt, Classical.not_not] at c_4 c_14); first | (simp [cq_falls, c_4, c_14]; done) | (simp [cq_falls, eq_true c_4, eq_true c_14]; done) | (exfalso; clear hend ; simp_all; done)), rfl⟩ rfl dX11_falls_28
    · refine lv_ldc (v := (-1000001)) hx hb hown (hts _ (List.mem_of_getElem? (i := 2) rfl)) dX11_falls_17 ?_
      exact hend H locs ((-1000001)) (L, ob_W D f oa C mk im mk ad n g) _ ls w ⟨(by (try simp only [lg_cmp_le, lg_cmp_ge, lg_cmp_lt, lg_cmp_gt, hs_if10, ← Int32.not_lt, ← Int64.not_lt, Classical.not_not] at c_4 c_14); first | (simp [cq_falls, c_4, c_14]; done) | (simp [cq_falls, eq_true c_4, c_14]; done) | (exfalso; clear hend ; simp_all; done)), rfl⟩ rfl dX11_falls_19
  · refine lv_ldc (v := (-1000002)) hx hb hown (hts _ (List.mem_of_getElem? (i := 1) rfl)) dX11_falls_7 ?_
    exact hend H locs ((-1000002)) (L, ob_W D f oa C mk im mk ad n g) _ ls w ⟨(by (try simp only [lg_cmp_le, lg_cmp_ge, lg_cmp_lt, lg_cmp_gt, hs_if10, ← Int32.not_lt, ← Int64.not_lt, Classical.not_not] at c_4); first | (simp [cq_falls, c_4]; done) | (simp [cq_falls, c_4]; done) | (exfalso; clear hend ; simp_all; done)), rfl⟩ rfl dX11_falls_9
theorem hdX1_dearestPlace : yX1_dearestPlace.cls ≠ "java/lang/invoke/MethodHandle" ∧ yX1_dearestPlace.cls ≠ "java/lang/invoke/VarHandle" ∧ (parseMethodDescriptor yX1_dearestPlace.desc).map (fun d => d.parameters.length) = some 2 := by decide +kernel
set_option maxRecDepth 100000 in
set_option maxHeartbeats 4000000 in
theorem c_X11_dearest (l : Launch) (D : va_G) (b0 : Nat) (L : List Nat) (f : Nat → va_E) (oa : Nat → Nat) (C : Nat → Nat → Int32) (im : Nat → Option Nat) (mk : Nat) (ad : Nat → Nat) (n : Nat) (g : Nat → Int32) (hm : mk_ok L mk ad n) (hs : mk_sr g n) (ho : ob_ok L oa mk ad n) (nr : Nat) (ht : mk_t g nr) (s0 : Int32) : hg_Fi l yX11_dearest wsX11_dearest ({ frames := 6, cells := 0, slots := 0, locals := 137 }) D b0 L (ob_W D f oa C mk im mk ad n g) [.ref (oa 0), .int (s0)] (cq_dearest g n s0) (ob_W D f oa C mk im mk ad n g) := by
  refine hg_in_i (cc := cX11_dearest) (nL := 3) (by decide) rfl (Nat.le_of_ble_eq_true rfl) (fun p e s m args below meth c R Q X hR hend H locs ls w hl => ?_)
  subst hR
  obtain ⟨hx, hb, hml, hown, hts⟩ := id X.1
  have hin : mk_in wsX11_dearest := ⟨fun w h => List.mem_cons_of_mem _ (List.mem_append_left _ (List.mem_append_left _ (List.mem_append_left _ (List.mem_append_left _ (List.mem_append_right _ h))))), fun w h => List.mem_cons_of_mem _ (List.mem_append_left _ (List.mem_append_left _ (List.mem_append_left _ (List.mem_append_right _ h)))), fun w h => List.mem_cons_of_mem _ (List.mem_append_left _ (List.mem_append_left _ (List.mem_append_right _ h))), fun w h => List.mem_cons_of_mem _ (List.mem_append_left _ (List.mem_append_right _ h)), fun w h => List.mem_cons_of_mem _ (List.mem_append_right _ h)⟩
  have hin3 : ∀ w ∈ wsX30, w ∈ wsX11_dearest := fun w h => List.mem_cons_of_mem _ (List.mem_append_left _ (List.mem_append_left _ (List.mem_append_left _ (List.mem_append_left _ (List.mem_append_left _ (List.mem_append_right _ h))))))
  have hin11 : ∀ w ∈ wsX110, w ∈ wsX11_dearest := fun w h => List.mem_cons_of_mem _ (List.mem_append_left _ (List.mem_append_left _ (List.mem_append_left _ (List.mem_append_left _ (List.mem_append_left _ (List.mem_append_left _ (List.mem_append_right _ h)))))))
  have hl : lv_has ls 3 [(0, .ref (oa 0)), (1, .int (s0))] := hl
  have hn6 := hs.2.1
  refine lv_aload_n hx hb dX11_dearest_0 rfl (lv_at hl 0 rfl) ?_
  refine lv_iload_n hx hb dX11_dearest_1 rfl (lv_at hl 1 rfl) ?_
  refine hg_vqF (r := cs_sa ad g s0) (As := [.int (s0)]) (rest := []) X w (c_X11_stallAt l D b0 L f oa C im mk ad n g hm hs ho s0) (cwV 1 hts gX11_dearest_X11_stallAt rfl rfl rfl hdX11_stallAt ⟨Nat.le_of_ble_eq_true rfl, Nat.le_of_ble_eq_true rfl⟩) (ho.1 0 (by decide)).1 (ow_at ho (k := 0) (by decide)) rfl rfl rfl hl.1 rfl (Nat.le_of_ble_eq_true rfl) dX11_dearest_2 ⟨Nat.zero_le _, Nat.zero_le _⟩ (fun H locs w => ?_)
  refine ob_qs hs (fun hz_s0 => ?_) (fun j_s0 hj_s0 e_s0 => ?_)
  · refine lv_astore_nN (lv' := [(2, .null), (0, .ref (oa 0)), (1, .int (s0))]) hx hb dX11_dearest_5 rfl hl (by decide) rfl (fun ls hl => ?_)
    refine lv_aload_nN hx hb dX11_dearest_6 rfl (lv_at hl 0 rfl) ?_
    refine lv_ifnonnullN hx hb dX11_dearest_7 ?_
    refine lv_ldc (v := (-1000001)) hx hb hown (hts _ (List.mem_of_getElem? (i := 1) rfl)) dX11_dearest_10 ?_
    refine lv_goto (tgt := 23) hx hb dX11_dearest_12 (by decide) ?_
    exact hend H locs ((-1000001)) (L, ob_W D f oa C mk im mk ad n g) _ ls w ⟨(by (try simp only [lg_cmp_le, lg_cmp_ge, lg_cmp_lt, lg_cmp_gt, hs_if10, ← Int32.not_lt, ← Int64.not_lt, Classical.not_not] at hz_s0); first | (simp [cq_dearest, hz_s0]; done) | (simp [cq_dearest, hz_s0]; done) | (exfalso; clear hend ; simp_all; done)), rfl⟩ rfl dX11_dearest_23
  · subst e_s0
    have h1j_s0 := cs_st_1 hs hj_s0
    have hcj_s0 : (nI j_s0).toNatClampNeg = j_s0 := nI_clamp (by omega)
    refine lv_astore_n (lv' := [(2, .ref (ad (2 + j_s0))), (0, .ref (oa 0)), (1, .int (nI j_s0))]) hx hb dX11_dearest_5 rfl hl (by decide) rfl (fun ls hl => ?_)
    refine lv_aload_n hx hb dX11_dearest_6 rfl (lv_at hl 0 rfl) ?_
    refine lv_ifnonnull (tgt := 15) hx hb dX11_dearest_7 (by decide) ?_
    refine lv_aload_n hx hb dX11_dearest_15 rfl (lv_at hl 1 rfl) ?_
    refine ob_get X w ho 0 (by decide) (C0 := RX11) (T := TX11) (N := 12) (ci := 9) rfl hin11 rfl 9 (by decide) (List.mem_of_getElem? (i := 2) rfl) rfl rfl dX11_dearest_16 ?_
    refine lv_aload_n hx hb dX11_dearest_19 rfl (lv_at hl 0 rfl) ?_
    refine hg_siF (r := (mk_dear g n j_s0 8).1) (As := [.ref mk, .ref (ad (2 + j_s0))]) (rest := []) X w (c_X1_dearestPlace l D b0 L (ob_F D f oa C mk im) mk ad n g hm hs nr ht j_s0 hj_s0) (va_cwS 2 hts gX11_dearest_X1_dearestPlace rfl rfl rfl hdX1_dearestPlace ⟨Nat.le_of_ble_eq_true rfl, Nat.le_of_ble_eq_true rfl⟩) rfl hl.1 rfl (Nat.le_of_ble_eq_true rfl) dX11_dearest_20 ⟨Nat.zero_le _, Nat.zero_le _⟩ (fun H locs w => ?_)
    exact hend H locs ((mk_dear g n j_s0 8).1) (L, ob_W D f oa C mk im mk ad n g) _ ls w ⟨(by first | (simp [cq_dearest, h1j_s0, hcj_s0]; done) | (simp [cq_dearest, h1j_s0, hcj_s0]; done) | (exfalso; clear hend ; simp_all; done)), rfl⟩ rfl dX11_dearest_23
theorem hdX1_rentedPlaces : yX1_rentedPlaces.cls ≠ "java/lang/invoke/MethodHandle" ∧ yX1_rentedPlaces.cls ≠ "java/lang/invoke/VarHandle" ∧ (parseMethodDescriptor yX1_rentedPlaces.desc).map (fun d => d.parameters.length) = some 4 := by decide +kernel
set_option maxRecDepth 100000 in
set_option maxHeartbeats 4000000 in
theorem c_X11_rented (l : Launch) (D : va_G) (b0 : Nat) (L : List Nat) (f : Nat → va_E) (oa : Nat → Nat) (C : Nat → Nat → Int32) (im : Nat → Option Nat) (mk : Nat) (ad : Nat → Nat) (n : Nat) (g : Nat → Int32) (hm : mk_ok L mk ad n) (hs : mk_sr g n) (ho : ob_ok L oa mk ad n) (nr : Nat) (ht : mk_t g nr) (s0 a b : Int32) : hg_Fi l yX11_rented wsX11_rented ({ frames := 6, cells := 0, slots := 0, locals := 138 }) D b0 L (ob_W D f oa C mk im mk ad n g) [.ref (oa 0), .int (s0), .int (a), .int (b)] (cq_rented g n s0 a b) (ob_W D f oa C mk im mk ad n g) := by
  refine hg_in_i (cc := cX11_rented) (nL := 7) (by decide) rfl (Nat.le_of_ble_eq_true rfl) (fun p e s m args below meth c R Q X hR hend H locs ls w hl => ?_)
  subst hR
  obtain ⟨hx, hb, hml, hown, hts⟩ := id X.1
  have hin : mk_in wsX11_rented := ⟨fun w h => List.mem_cons_of_mem _ (List.mem_append_left _ (List.mem_append_left _ (List.mem_append_left _ (List.mem_append_left _ (List.mem_append_right _ h))))), fun w h => List.mem_cons_of_mem _ (List.mem_append_left _ (List.mem_append_left _ (List.mem_append_left _ (List.mem_append_right _ h)))), fun w h => List.mem_cons_of_mem _ (List.mem_append_left _ (List.mem_append_left _ (List.mem_append_right _ h))), fun w h => List.mem_cons_of_mem _ (List.mem_append_left _ (List.mem_append_right _ h)), fun w h => List.mem_cons_of_mem _ (List.mem_append_right _ h)⟩
  have hin3 : ∀ w ∈ wsX30, w ∈ wsX11_rented := fun w h => List.mem_cons_of_mem _ (List.mem_append_left _ (List.mem_append_left _ (List.mem_append_left _ (List.mem_append_left _ (List.mem_append_left _ (List.mem_append_right _ h))))))
  have hin11 : ∀ w ∈ wsX110, w ∈ wsX11_rented := fun w h => List.mem_cons_of_mem _ (List.mem_append_left _ (List.mem_append_left _ (List.mem_append_left _ (List.mem_append_left _ (List.mem_append_left _ (List.mem_append_left _ (List.mem_append_right _ h)))))))
  have hl : lv_has ls 7 [(0, .ref (oa 0)), (1, .int (s0)), (2, .int (a)), (3, .int (b))] := hl
  have hn6 := hs.2.1
  refine lv_aload_n hx hb dX11_rented_0 rfl (lv_at hl 0 rfl) ?_
  refine lv_iload_n hx hb dX11_rented_1 rfl (lv_at hl 1 rfl) ?_
  refine hg_vqF (r := cs_sa ad g s0) (As := [.int (s0)]) (rest := []) X w (c_X11_stallAt l D b0 L f oa C im mk ad n g hm hs ho s0) (cwV 1 hts gX11_rented_X11_stallAt rfl rfl rfl hdX11_stallAt ⟨Nat.le_of_ble_eq_true rfl, Nat.le_of_ble_eq_true rfl⟩) (ho.1 0 (by decide)).1 (ow_at ho (k := 0) (by decide)) rfl rfl rfl hl.1 rfl (Nat.le_of_ble_eq_true rfl) dX11_rented_2 ⟨Nat.zero_le _, Nat.zero_le _⟩ (fun H locs w => ?_)
  refine ob_qs hs (fun hz_s0 => ?_) (fun j_s0 hj_s0 e_s0 => ?_)
  · refine lv_astoreN (lv' := [(4, .null), (0, .ref (oa 0)), (1, .int (s0)), (2, .int (a)), (3, .int (b))]) hx hb dX11_rented_5 hl (by decide) rfl (fun ls hl => ?_)
    refine lv_aload_n hx hb dX11_rented_7 rfl (lv_at hl 1 rfl) ?_
    refine lv_iload_n hx hb dX11_rented_8 rfl (lv_at hl 3 rfl) ?_
    refine hg_vqF (r := cs_sa ad g a) (As := [.int (a)]) (rest := []) X w (c_X11_stallAt l D b0 L f oa C im mk ad n g hm hs ho a) (cwV 1 hts gX11_rented_X11_stallAt rfl rfl rfl hdX11_stallAt ⟨Nat.le_of_ble_eq_true rfl, Nat.le_of_ble_eq_true rfl⟩) (ho.1 0 (by decide)).1 (ow_at ho (k := 0) (by decide)) rfl rfl rfl hl.1 rfl (Nat.le_of_ble_eq_true rfl) dX11_rented_9 ⟨Nat.zero_le _, Nat.zero_le _⟩ (fun H locs w => ?_)
    refine ob_qs hs (fun hz_a => ?_) (fun j_a hj_a e_a => ?_)
    · refine lv_astoreN (lv' := [(5, .null), (4, .null), (0, .ref (oa 0)), (1, .int (s0)), (2, .int (a)), (3, .int (b))]) hx hb dX11_rented_12 hl (by decide) rfl (fun ls hl => ?_)
      refine lv_aload_n hx hb dX11_rented_14 rfl (lv_at hl 2 rfl) ?_
      refine lv_iload_n hx hb dX11_rented_15 rfl (lv_at hl 5 rfl) ?_
      refine hg_vqF (r := cs_sa ad g b) (As := [.int (b)]) (rest := []) X w (c_X11_stallAt l D b0 L f oa C im mk ad n g hm hs ho b) (cwV 1 hts gX11_rented_X11_stallAt rfl rfl rfl hdX11_stallAt ⟨Nat.le_of_ble_eq_true rfl, Nat.le_of_ble_eq_true rfl⟩) (ho.1 0 (by decide)).1 (ow_at ho (k := 0) (by decide)) rfl rfl rfl hl.1 rfl (Nat.le_of_ble_eq_true rfl) dX11_rented_16 ⟨Nat.zero_le _, Nat.zero_le _⟩ (fun H locs w => ?_)
      refine ob_qs hs (fun hz_b => ?_) (fun j_b hj_b e_b => ?_)
      · refine lv_astoreN (lv' := [(6, .null), (5, .null), (4, .null), (0, .ref (oa 0)), (1, .int (s0)), (2, .int (a)), (3, .int (b))]) hx hb dX11_rented_19 hl (by decide) rfl (fun ls hl => ?_)
        refine lv_aloadN hx hb dX11_rented_21 (lv_at hl 2 rfl) ?_
        refine lv_ifnullN (tgt := 41) hx hb dX11_rented_23 (by decide) ?_
        refine lv_ldc (v := (-1000001)) hx hb hown (hts _ (List.mem_of_getElem? (i := 1) rfl)) dX11_rented_41 ?_
        exact hend H locs ((-1000001)) (L, ob_W D f oa C mk im mk ad n g) _ ls w ⟨(by (try simp only [lg_cmp_le, lg_cmp_ge, lg_cmp_lt, lg_cmp_gt, hs_if10, ← Int32.not_lt, ← Int64.not_lt, Classical.not_not] at hz_s0 hz_a hz_b); first | (simp [cq_rented, hz_s0, hz_a, hz_b]; done) | (simp [cq_rented, hz_s0, hz_a, hz_b]; done) | (exfalso; clear hend ; simp_all; done)), rfl⟩ rfl dX11_rented_43
      · subst e_b
        have h1j_b := cs_st_1 hs hj_b
        have hcj_b : (nI j_b).toNatClampNeg = j_b := nI_clamp (by omega)
        refine lv_astore (lv' := [(6, .ref (ad (2 + j_b))), (5, .null), (4, .null), (0, .ref (oa 0)), (1, .int (s0)), (2, .int (a)), (3, .int (nI j_b))]) hx hb dX11_rented_19 hl (by decide) rfl (fun ls hl => ?_)
        refine lv_aloadN hx hb dX11_rented_21 (lv_at hl 2 rfl) ?_
        refine lv_ifnullN (tgt := 41) hx hb dX11_rented_23 (by decide) ?_
        refine lv_ldc (v := (-1000001)) hx hb hown (hts _ (List.mem_of_getElem? (i := 1) rfl)) dX11_rented_41 ?_
        exact hend H locs ((-1000001)) (L, ob_W D f oa C mk im mk ad n g) _ ls w ⟨(by (try simp only [lg_cmp_le, lg_cmp_ge, lg_cmp_lt, lg_cmp_gt, hs_if10, ← Int32.not_lt, ← Int64.not_lt, Classical.not_not] at hz_s0 hz_a); first | (simp [cq_rented, hz_s0, hz_a, h1j_b, hcj_b]; done) | (simp [cq_rented, hz_s0, hz_a, h1j_b, hcj_b]; done) | (exfalso; clear hend ; simp_all; done)), rfl⟩ rfl dX11_rented_43
    · subst e_a
      have h1j_a := cs_st_1 hs hj_a
      have hcj_a : (nI j_a).toNatClampNeg = j_a := nI_clamp (by omega)
      refine lv_astore (lv' := [(5, .ref (ad (2 + j_a))), (4, .null), (0, .ref (oa 0)), (1, .int (s0)), (2, .int (nI j_a)), (3, .int (b))]) hx hb dX11_rented_12 hl (by decide) rfl (fun ls hl => ?_)
      refine lv_aload_n hx hb dX11_rented_14 rfl (lv_at hl 2 rfl) ?_
      refine lv_iload_n hx hb dX11_rented_15 rfl (lv_at hl 5 rfl) ?_
      refine hg_vqF (r := cs_sa ad g b) (As := [.int (b)]) (rest := []) X w (c_X11_stallAt l D b0 L f oa C im mk ad n g hm hs ho b) (cwV 1 hts gX11_rented_X11_stallAt rfl rfl rfl hdX11_stallAt ⟨Nat.le_of_ble_eq_true rfl, Nat.le_of_ble_eq_true rfl⟩) (ho.1 0 (by decide)).1 (ow_at ho (k := 0) (by decide)) rfl rfl rfl hl.1 rfl (Nat.le_of_ble_eq_true rfl) dX11_rented_16 ⟨Nat.zero_le _, Nat.zero_le _⟩ (fun H locs w => ?_)
      refine ob_qs hs (fun hz_b => ?_) (fun j_b hj_b e_b => ?_)
      · refine lv_astoreN (lv' := [(6, .null), (5, .ref (ad (2 + j_a))), (4, .null), (0, .ref (oa 0)), (1, .int (s0)), (2, .int (nI j_a)), (3, .int (b))]) hx hb dX11_rented_19 hl (by decide) rfl (fun ls hl => ?_)
        refine lv_aloadN hx hb dX11_rented_21 (lv_at hl 2 rfl) ?_
        refine lv_ifnullN (tgt := 41) hx hb dX11_rented_23 (by decide) ?_
        refine lv_ldc (v := (-1000001)) hx hb hown (hts _ (List.mem_of_getElem? (i := 1) rfl)) dX11_rented_41 ?_
        exact hend H locs ((-1000001)) (L, ob_W D f oa C mk im mk ad n g) _ ls w ⟨(by (try simp only [lg_cmp_le, lg_cmp_ge, lg_cmp_lt, lg_cmp_gt, hs_if10, ← Int32.not_lt, ← Int64.not_lt, Classical.not_not] at hz_s0 hz_b); first | (simp [cq_rented, hz_s0, hz_b, h1j_a, hcj_a]; done) | (simp [cq_rented, hz_s0, hz_b, h1j_a, hcj_a]; done) | (exfalso; clear hend ; simp_all; done)), rfl⟩ rfl dX11_rented_43
      · subst e_b
        have h1j_b := cs_st_1 hs hj_b
        have hcj_b : (nI j_b).toNatClampNeg = j_b := nI_clamp (by omega)
        refine lv_astore (lv' := [(6, .ref (ad (2 + j_b))), (5, .ref (ad (2 + j_a))), (4, .null), (0, .ref (oa 0)), (1, .int (s0)), (2, .int (nI j_a)), (3, .int (nI j_b))]) hx hb dX11_rented_19 hl (by decide) rfl (fun ls hl => ?_)
        refine lv_aloadN hx hb dX11_rented_21 (lv_at hl 2 rfl) ?_
        refine lv_ifnullN (tgt := 41) hx hb dX11_rented_23 (by decide) ?_
        refine lv_ldc (v := (-1000001)) hx hb hown (hts _ (List.mem_of_getElem? (i := 1) rfl)) dX11_rented_41 ?_
        exact hend H locs ((-1000001)) (L, ob_W D f oa C mk im mk ad n g) _ ls w ⟨(by (try simp only [lg_cmp_le, lg_cmp_ge, lg_cmp_lt, lg_cmp_gt, hs_if10, ← Int32.not_lt, ← Int64.not_lt, Classical.not_not] at hz_s0); first | (simp [cq_rented, hz_s0, h1j_a, hcj_a, h1j_b, hcj_b]; done) | (simp [cq_rented, hz_s0, h1j_a, hcj_a, h1j_b, hcj_b]; done) | (exfalso; clear hend ; simp_all; done)), rfl⟩ rfl dX11_rented_43
  · subst e_s0
    have h1j_s0 := cs_st_1 hs hj_s0
    have hcj_s0 : (nI j_s0).toNatClampNeg = j_s0 := nI_clamp (by omega)
    refine lv_astore (lv' := [(4, .ref (ad (2 + j_s0))), (0, .ref (oa 0)), (1, .int (nI j_s0)), (2, .int (a)), (3, .int (b))]) hx hb dX11_rented_5 hl (by decide) rfl (fun ls hl => ?_)
    refine lv_aload_n hx hb dX11_rented_7 rfl (lv_at hl 1 rfl) ?_
    refine lv_iload_n hx hb dX11_rented_8 rfl (lv_at hl 3 rfl) ?_
    refine hg_vqF (r := cs_sa ad g a) (As := [.int (a)]) (rest := []) X w (c_X11_stallAt l D b0 L f oa C im mk ad n g hm hs ho a) (cwV 1 hts gX11_rented_X11_stallAt rfl rfl rfl hdX11_stallAt ⟨Nat.le_of_ble_eq_true rfl, Nat.le_of_ble_eq_true rfl⟩) (ho.1 0 (by decide)).1 (ow_at ho (k := 0) (by decide)) rfl rfl rfl hl.1 rfl (Nat.le_of_ble_eq_true rfl) dX11_rented_9 ⟨Nat.zero_le _, Nat.zero_le _⟩ (fun H locs w => ?_)
    refine ob_qs hs (fun hz_a => ?_) (fun j_a hj_a e_a => ?_)
    · refine lv_astoreN (lv' := [(5, .null), (4, .ref (ad (2 + j_s0))), (0, .ref (oa 0)), (1, .int (nI j_s0)), (2, .int (a)), (3, .int (b))]) hx hb dX11_rented_12 hl (by decide) rfl (fun ls hl => ?_)
      refine lv_aload_n hx hb dX11_rented_14 rfl (lv_at hl 2 rfl) ?_
      refine lv_iload_n hx hb dX11_rented_15 rfl (lv_at hl 5 rfl) ?_
      refine hg_vqF (r := cs_sa ad g b) (As := [.int (b)]) (rest := []) X w (c_X11_stallAt l D b0 L f oa C im mk ad n g hm hs ho b) (cwV 1 hts gX11_rented_X11_stallAt rfl rfl rfl hdX11_stallAt ⟨Nat.le_of_ble_eq_true rfl, Nat.le_of_ble_eq_true rfl⟩) (ho.1 0 (by decide)).1 (ow_at ho (k := 0) (by decide)) rfl rfl rfl hl.1 rfl (Nat.le_of_ble_eq_true rfl) dX11_rented_16 ⟨Nat.zero_le _, Nat.zero_le _⟩ (fun H locs w => ?_)
      refine ob_qs hs (fun hz_b => ?_) (fun j_b hj_b e_b => ?_)
      · refine lv_astoreN (lv' := [(6, .null), (5, .null), (4, .ref (ad (2 + j_s0))), (0, .ref (oa 0)), (1, .int (nI j_s0)), (2, .int (a)), (3, .int (b))]) hx hb dX11_rented_19 hl (by decide) rfl (fun ls hl => ?_)
        refine lv_aload hx hb dX11_rented_21 (lv_at hl 2 rfl) ?_
        refine lv_ifnull hx hb dX11_rented_23 ?_
        refine lv_aloadN hx hb dX11_rented_26 (lv_at hl 1 rfl) ?_
        refine lv_ifnullN (tgt := 41) hx hb dX11_rented_28 (by decide) ?_
        refine lv_ldc (v := (-1000001)) hx hb hown (hts _ (List.mem_of_getElem? (i := 1) rfl)) dX11_rented_41 ?_
        exact hend H locs ((-1000001)) (L, ob_W D f oa C mk im mk ad n g) _ ls w ⟨(by (try simp only [lg_cmp_le, lg_cmp_ge, lg_cmp_lt, lg_cmp_gt, hs_if10, ← Int32.not_lt, ← Int64.not_lt, Classical.not_not] at hz_a hz_b); first | (simp [cq_rented, hz_a, hz_b, h1j_s0, hcj_s0]; done) | (simp [cq_rented, hz_a, hz_b, h1j_s0, hcj_s0]; done) | (exfalso; clear hend ; simp_all; done)), rfl⟩ rfl dX11_rented_43
      · subst e_b
        have h1j_b := cs_st_1 hs hj_b
        have hcj_b : (nI j_b).toNatClampNeg = j_b := nI_clamp (by omega)
        refine lv_astore (lv' := [(6, .ref (ad (2 + j_b))), (5, .null), (4, .ref (ad (2 + j_s0))), (0, .ref (oa 0)), (1, .int (nI j_s0)), (2, .int (a)), (3, .int (nI j_b))]) hx hb dX11_rented_19 hl (by decide) rfl (fun ls hl => ?_)
        refine lv_aload hx hb dX11_rented_21 (lv_at hl 2 rfl) ?_
        refine lv_ifnull hx hb dX11_rented_23 ?_
        refine lv_aloadN hx hb dX11_rented_26 (lv_at hl 1 rfl) ?_
        refine lv_ifnullN (tgt := 41) hx hb dX11_rented_28 (by decide) ?_
        refine lv_ldc (v := (-1000001)) hx hb hown (hts _ (List.mem_of_getElem? (i := 1) rfl)) dX11_rented_41 ?_
        exact hend H locs ((-1000001)) (L, ob_W D f oa C mk im mk ad n g) _ ls w ⟨(by (try simp only [lg_cmp_le, lg_cmp_ge, lg_cmp_lt, lg_cmp_gt, hs_if10, ← Int32.not_lt, ← Int64.not_lt, Classical.not_not] at hz_a); first | (simp [cq_rented, hz_a, h1j_s0, hcj_s0, h1j_b, hcj_b]; done) | (simp [cq_rented, hz_a, h1j_s0, hcj_s0, h1j_b, hcj_b]; done) | (exfalso; clear hend ; simp_all; done)), rfl⟩ rfl dX11_rented_43
    · subst e_a
      have h1j_a := cs_st_1 hs hj_a
      have hcj_a : (nI j_a).toNatClampNeg = j_a := nI_clamp (by omega)
      refine lv_astore (lv' := [(5, .ref (ad (2 + j_a))), (4, .ref (ad (2 + j_s0))), (0, .ref (oa 0)), (1, .int (nI j_s0)), (2, .int (nI j_a)), (3, .int (b))]) hx hb dX11_rented_12 hl (by decide) rfl (fun ls hl => ?_)
      refine lv_aload_n hx hb dX11_rented_14 rfl (lv_at hl 2 rfl) ?_
      refine lv_iload_n hx hb dX11_rented_15 rfl (lv_at hl 5 rfl) ?_
      refine hg_vqF (r := cs_sa ad g b) (As := [.int (b)]) (rest := []) X w (c_X11_stallAt l D b0 L f oa C im mk ad n g hm hs ho b) (cwV 1 hts gX11_rented_X11_stallAt rfl rfl rfl hdX11_stallAt ⟨Nat.le_of_ble_eq_true rfl, Nat.le_of_ble_eq_true rfl⟩) (ho.1 0 (by decide)).1 (ow_at ho (k := 0) (by decide)) rfl rfl rfl hl.1 rfl (Nat.le_of_ble_eq_true rfl) dX11_rented_16 ⟨Nat.zero_le _, Nat.zero_le _⟩ (fun H locs w => ?_)
      refine ob_qs hs (fun hz_b => ?_) (fun j_b hj_b e_b => ?_)
      · refine lv_astoreN (lv' := [(6, .null), (5, .ref (ad (2 + j_a))), (4, .ref (ad (2 + j_s0))), (0, .ref (oa 0)), (1, .int (nI j_s0)), (2, .int (nI j_a)), (3, .int (b))]) hx hb dX11_rented_19 hl (by decide) rfl (fun ls hl => ?_)
        refine lv_aload hx hb dX11_rented_21 (lv_at hl 2 rfl) ?_
        refine lv_ifnull hx hb dX11_rented_23 ?_
        refine lv_aload hx hb dX11_rented_26 (lv_at hl 1 rfl) ?_
        refine lv_ifnull hx hb dX11_rented_28 ?_
        refine lv_aloadN hx hb dX11_rented_31 (lv_at hl 0 rfl) ?_
        refine lv_ifnullN (tgt := 41) hx hb dX11_rented_33 (by decide) ?_
        refine lv_ldc (v := (-1000001)) hx hb hown (hts _ (List.mem_of_getElem? (i := 1) rfl)) dX11_rented_41 ?_
        exact hend H locs ((-1000001)) (L, ob_W D f oa C mk im mk ad n g) _ ls w ⟨(by (try simp only [lg_cmp_le, lg_cmp_ge, lg_cmp_lt, lg_cmp_gt, hs_if10, ← Int32.not_lt, ← Int64.not_lt, Classical.not_not] at hz_b); first | (simp [cq_rented, hz_b, h1j_s0, hcj_s0, h1j_a, hcj_a]; done) | (simp [cq_rented, hz_b, h1j_s0, hcj_s0, h1j_a, hcj_a]; done) | (exfalso; clear hend ; simp_all; done)), rfl⟩ rfl dX11_rented_43
      · subst e_b
        have h1j_b := cs_st_1 hs hj_b
        have hcj_b : (nI j_b).toNatClampNeg = j_b := nI_clamp (by omega)
        refine lv_astore (lv' := [(6, .ref (ad (2 + j_b))), (5, .ref (ad (2 + j_a))), (4, .ref (ad (2 + j_s0))), (0, .ref (oa 0)), (1, .int (nI j_s0)), (2, .int (nI j_a)), (3, .int (nI j_b))]) hx hb dX11_rented_19 hl (by decide) rfl (fun ls hl => ?_)
        refine lv_aload hx hb dX11_rented_21 (lv_at hl 2 rfl) ?_
        refine lv_ifnull hx hb dX11_rented_23 ?_
        refine lv_aload hx hb dX11_rented_26 (lv_at hl 1 rfl) ?_
        refine lv_ifnull hx hb dX11_rented_28 ?_
        refine lv_aload hx hb dX11_rented_31 (lv_at hl 0 rfl) ?_
        refine lv_ifnull hx hb dX11_rented_33 ?_
        refine lv_iload_n hx hb dX11_rented_36 rfl (lv_at hl 5 rfl) ?_
        refine lv_iload_n hx hb dX11_rented_37 rfl (lv_at hl 6 rfl) ?_
        refine lv_icmp_ne (tgt := 44) hx hb dX11_rented_38 (by decide) (fun c_38 => ?_) (fun c_38 => ?_)
        · refine lv_aload hx hb dX11_rented_44 (lv_at hl 2 rfl) ?_
          refine lv_iconst (v := 4) hx hb dX11_rented_46 (by decide) ?_
          refine hg_siF (r := (hs_isof (g (8 + j_s0)) 4)) (As := [.ref (ad (2 + j_s0)), .int (4)]) (rest := []) X w (c_X11_isOfKind l D b0 L f oa C im mk ad n g hm hs ho j_s0 hj_s0 4) (va_cwS 2 hts gX11_rented_X11_isOfKind rfl rfl rfl hdX11_isOfKind ⟨Nat.le_of_ble_eq_true rfl, Nat.le_of_ble_eq_true rfl⟩) rfl hl.1 rfl (Nat.le_of_ble_eq_true rfl) dX11_rented_47 ⟨Nat.zero_le _, Nat.zero_le _⟩ (fun H locs w => ?_)
          refine lv_if_eq (tgt := 77) hx hb dX11_rented_50 (by decide) (fun c_50 => ?_) (fun c_50 => ?_)
          · refine lv_ldc (v := (-1000002)) hx hb hown (hts _ (List.mem_of_getElem? (i := 3) rfl)) dX11_rented_77 ?_
            exact hend H locs ((-1000002)) (L, ob_W D f oa C mk im mk ad n g) _ ls w ⟨(by (try simp only [lg_cmp_le, lg_cmp_ge, lg_cmp_lt, lg_cmp_gt, hs_if10, ← Int32.not_lt, ← Int64.not_lt, Classical.not_not] at c_38 c_50); first | (simp [cq_rented, c_38, c_50, h1j_s0, hcj_s0, h1j_a, hcj_a, h1j_b, hcj_b]; done) | (simp [cq_rented, c_38, eq_true c_50, h1j_s0, hcj_s0, h1j_a, hcj_a, h1j_b, hcj_b]; done) | (exfalso; clear hend ; simp_all; done)), rfl⟩ rfl dX11_rented_79
          · refine lv_aload_n hx hb dX11_rented_53 rfl (lv_at hl 3 rfl) ?_
            refine ob_get X w ho 0 (by decide) (C0 := RX11) (T := TX11) (N := 12) (ci := 9) rfl hin11 rfl 9 (by decide) (List.mem_of_getElem? (i := 2) rfl) rfl rfl dX11_rented_54 ?_
            refine lv_aload hx hb dX11_rented_57 (lv_at hl 1 rfl) ?_
            refine lv_aload hx hb dX11_rented_59 (lv_at hl 0 rfl) ?_
            refine hg_viF (r := (mk_joins g j_a j_b)) (As := [.ref (ad (2 + j_a)), .ref (ad (2 + j_b))]) (rest := []) X w (c_X3_joins l D b0 L (ob_F D f oa C mk im) mk ad n g hm hs j_a j_b hj_a hj_b) (cwV 2 hts gX11_rented_X3_joins rfl rfl rfl hdX3_joins ⟨Nat.le_of_ble_eq_true rfl, Nat.le_of_ble_eq_true rfl⟩) hm.1 (mk_at0 D _ mk ad n _) rfl rfl rfl hl.1 rfl (Nat.le_of_ble_eq_true rfl) dX11_rented_61 ⟨Nat.zero_le _, Nat.zero_le _⟩ (fun H locs w => ?_)
            refine lv_if_eq (tgt := 77) hx hb dX11_rented_64 (by decide) (fun c_64 => ?_) (fun c_64 => ?_)
            · refine lv_ldc (v := (-1000002)) hx hb hown (hts _ (List.mem_of_getElem? (i := 3) rfl)) dX11_rented_77 ?_
              exact hend H locs ((-1000002)) (L, ob_W D f oa C mk im mk ad n g) _ ls w ⟨(by (try simp only [lg_cmp_le, lg_cmp_ge, lg_cmp_lt, lg_cmp_gt, hs_if10, ← Int32.not_lt, ← Int64.not_lt, Classical.not_not] at c_38 c_50 c_64); first | (simp [cq_rented, c_38, c_50, c_64, h1j_s0, hcj_s0, h1j_a, hcj_a, h1j_b, hcj_b]; done) | (simp [cq_rented, c_38, c_50, eq_true c_64, h1j_s0, hcj_s0, h1j_a, hcj_a, h1j_b, hcj_b]; done) | (exfalso; clear hend ; simp_all; done)), rfl⟩ rfl dX11_rented_79
            · refine lv_iload_n hx hb dX11_rented_67 rfl (lv_at hl 4 rfl) ?_
              refine lv_iload_n hx hb dX11_rented_68 rfl (lv_at hl 5 rfl) ?_
              refine lv_icmp_eq (tgt := 77) hx hb dX11_rented_69 (by decide) (fun c_69 => ?_) (fun c_69 => ?_)
              · refine lv_ldc (v := (-1000002)) hx hb hown (hts _ (List.mem_of_getElem? (i := 3) rfl)) dX11_rented_77 ?_
                exact hend H locs ((-1000002)) (L, ob_W D f oa C mk im mk ad n g) _ ls w ⟨(by (try simp only [lg_cmp_le, lg_cmp_ge, lg_cmp_lt, lg_cmp_gt, hs_if10, ← Int32.not_lt, ← Int64.not_lt, Classical.not_not] at c_38 c_50 c_64 c_69); first | (simp [cq_rented, c_38, c_50, c_64, c_69, h1j_s0, hcj_s0, h1j_a, hcj_a, h1j_b, hcj_b]; done) | (simp [cq_rented, c_38, c_50, c_64, eq_true c_69, h1j_s0, hcj_s0, h1j_a, hcj_a, h1j_b, hcj_b]; done) | (exfalso; clear hend ; simp_all; done)), rfl⟩ rfl dX11_rented_79
              · refine lv_iload_n hx hb dX11_rented_72 rfl (lv_at hl 4 rfl) ?_
                refine lv_iload_n hx hb dX11_rented_73 rfl (lv_at hl 6 rfl) ?_
                refine lv_icmp_ne (tgt := 80) hx hb dX11_rented_74 (by decide) (fun c_74 => ?_) (fun c_74 => ?_)
                · refine lv_aload_n hx hb dX11_rented_80 rfl (lv_at hl 3 rfl) ?_
                  refine ob_get X w ho 0 (by decide) (C0 := RX11) (T := TX11) (N := 12) (ci := 9) rfl hin11 rfl 9 (by decide) (List.mem_of_getElem? (i := 2) rfl) rfl rfl dX11_rented_81 ?_
                  refine lv_aload hx hb dX11_rented_84 (lv_at hl 2 rfl) ?_
                  refine lv_aload hx hb dX11_rented_86 (lv_at hl 1 rfl) ?_
                  refine lv_aload hx hb dX11_rented_88 (lv_at hl 0 rfl) ?_
                  refine hg_siF (r := (mk_rent g n j_s0 j_a j_b 8)) (As := [.ref mk, .ref (ad (2 + j_s0)), .ref (ad (2 + j_a)), .ref (ad (2 + j_b))]) (rest := []) X w (c_X1_rentedPlaces l D b0 L (ob_F D f oa C mk im) mk ad n g hm hs nr ht j_s0 hj_s0 j_a j_b hj_a hj_b) (va_cwS 4 hts gX11_rented_X1_rentedPlaces rfl rfl rfl hdX1_rentedPlaces ⟨Nat.le_of_ble_eq_true rfl, Nat.le_of_ble_eq_true rfl⟩) rfl hl.1 rfl (Nat.le_of_ble_eq_true rfl) dX11_rented_90 ⟨Nat.zero_le _, Nat.zero_le _⟩ (fun H locs w => ?_)
                  exact hend H locs ((mk_rent g n j_s0 j_a j_b 8)) (L, ob_W D f oa C mk im mk ad n g) _ ls w ⟨(by (try simp only [lg_cmp_le, lg_cmp_ge, lg_cmp_lt, lg_cmp_gt, hs_if10, ← Int32.not_lt, ← Int64.not_lt, Classical.not_not] at c_38 c_50 c_64 c_69 c_74); first | (simp [cq_rented, c_38, c_50, c_64, c_69, c_74, h1j_s0, hcj_s0, h1j_a, hcj_a, h1j_b, hcj_b]; done) | (simp [cq_rented, c_38, c_50, c_64, c_69, c_74, h1j_s0, hcj_s0, h1j_a, hcj_a, h1j_b, hcj_b]; done) | (exfalso; clear hend ; simp_all; done)), rfl⟩ rfl dX11_rented_93
                · refine lv_ldc (v := (-1000002)) hx hb hown (hts _ (List.mem_of_getElem? (i := 3) rfl)) dX11_rented_77 ?_
                  exact hend H locs ((-1000002)) (L, ob_W D f oa C mk im mk ad n g) _ ls w ⟨(by (try simp only [lg_cmp_le, lg_cmp_ge, lg_cmp_lt, lg_cmp_gt, hs_if10, ← Int32.not_lt, ← Int64.not_lt, Classical.not_not] at c_38 c_50 c_64 c_69 c_74); first | (simp [cq_rented, c_38, c_50, c_64, c_69, c_74, h1j_s0, hcj_s0, h1j_a, hcj_a, h1j_b, hcj_b]; done) | (simp [cq_rented, c_38, c_50, c_64, c_69, eq_true c_74, h1j_s0, hcj_s0, h1j_a, hcj_a, h1j_b, hcj_b]; done) | (exfalso; clear hend ; simp_all; done)), rfl⟩ rfl dX11_rented_79
        · refine lv_ldc (v := (-1000001)) hx hb hown (hts _ (List.mem_of_getElem? (i := 1) rfl)) dX11_rented_41 ?_
          exact hend H locs ((-1000001)) (L, ob_W D f oa C mk im mk ad n g) _ ls w ⟨(by (try simp only [lg_cmp_le, lg_cmp_ge, lg_cmp_lt, lg_cmp_gt, hs_if10, ← Int32.not_lt, ← Int64.not_lt, Classical.not_not] at c_38); first | (simp [cq_rented, c_38, h1j_s0, hcj_s0, h1j_a, hcj_a, h1j_b, hcj_b]; done) | (simp [cq_rented, eq_true c_38, h1j_s0, hcj_s0, h1j_a, hcj_a, h1j_b, hcj_b]; done) | (exfalso; clear hend ; simp_all; done)), rfl⟩ rfl dX11_rented_43
