set_option maxRecDepth 100000 in
set_option maxHeartbeats 4000000 in
theorem c_X11_copy (l : Launch) (D : va_G) (b0 : Nat) (L : List Nat) (f : Nat → va_E) (oa : Nat → Nat) (C : Nat → Nat → Int32) (im : Nat → Option Nat) (mk : Nat) (ad : Nat → Nat) (n : Nat) (g : Nat → Int32) (hm : mk_ok L mk ad n) (hs : mk_sr g n) (ho : ob_ok L oa mk ad n) (hsz : cs_szs C) (a x b y k : Int32) : hg_Fi l yX11_copy wsX11_copy ({ frames := 1, cells := 0, slots := 0, locals := 22 }) D b0 L (ob_W D f oa C mk im mk ad n g) [.ref (oa 0), .int (a), .int (x), .int (b), .int (y), .int (k)] ((cs_copy C a x b y k).1) (ob_W D f oa ((cs_copy C a x b y k).2) mk im mk ad n g) := by
  refine hg_in_i (cc := cX11_copy) (nL := 8) (by decide) rfl (Nat.le_of_ble_eq_true rfl) (fun p e s m args below meth c R Q X hR hend H locs ls w hl => ?_)
  subst hR
  obtain ⟨hx, hb, hml, hown, hts⟩ := id X.1
  have hin5 : ∀ w ∈ wsX50, w ∈ wsX11_copy := fun w h => List.mem_cons_of_mem _ (List.mem_append_left _ (List.mem_append_right _ h))
  have hin11 : ∀ w ∈ wsX110, w ∈ wsX11_copy := fun w h => List.mem_cons_of_mem _ (List.mem_append_right _ h)
  have hl : lv_has ls 8 [(0, .ref (oa 0)), (1, .int (a)), (2, .int (x)), (3, .int (b)), (4, .int (y)), (5, .int (k))] := hl
  refine lv_aload_n hx hb dX11_copy_0 rfl (lv_at hl 0 rfl) ?_
  refine lv_iload_n hx hb dX11_copy_1 rfl (lv_at hl 1 rfl) ?_
  refine hg_vqF (r := cs_ra oa a) (As := [.int (a)]) (rest := []) X w (c_X11_rowAt l D b0 L f oa C im mk ad n g hm hs ho a) (cwV 1 hts gX11_copy_X11_rowAt rfl rfl rfl hdX11_rowAt ⟨Nat.le_of_ble_eq_true rfl, Nat.le_of_ble_eq_true rfl⟩) (ho.1 0 (by decide)).1 (ow_at ho (k := 0) (by decide)) rfl rfl rfl hl.1 rfl (Nat.le_of_ble_eq_true rfl) dX11_copy_2 ⟨Nat.zero_le _, Nat.zero_le _⟩ (fun H locs w => ?_)
  refine ob_qr (fun hz_a => ?_) (fun r_a hr_a e_a => ?_)
  · refine lv_astoreN (lv' := [(6, .null), (0, .ref (oa 0)), (1, .int (a)), (2, .int (x)), (3, .int (b)), (4, .int (y)), (5, .int (k))]) hx hb dX11_copy_5 hl (by decide) rfl (fun ls hl => ?_)
    refine lv_aload_n hx hb dX11_copy_7 rfl (lv_at hl 1 rfl) ?_
    refine lv_iload_n hx hb dX11_copy_8 rfl (lv_at hl 4 rfl) ?_
    refine hg_vqF (r := cs_ra oa b) (As := [.int (b)]) (rest := []) X w (c_X11_rowAt l D b0 L f oa C im mk ad n g hm hs ho b) (cwV 1 hts gX11_copy_X11_rowAt rfl rfl rfl hdX11_rowAt ⟨Nat.le_of_ble_eq_true rfl, Nat.le_of_ble_eq_true rfl⟩) (ho.1 0 (by decide)).1 (ow_at ho (k := 0) (by decide)) rfl rfl rfl hl.1 rfl (Nat.le_of_ble_eq_true rfl) dX11_copy_9 ⟨Nat.zero_le _, Nat.zero_le _⟩ (fun H locs w => ?_)
    refine ob_qr (fun hz_b => ?_) (fun r_b hr_b e_b => ?_)
    · refine lv_astoreN (lv' := [(7, .null), (6, .null), (0, .ref (oa 0)), (1, .int (a)), (2, .int (x)), (3, .int (b)), (4, .int (y)), (5, .int (k))]) hx hb dX11_copy_12 hl (by decide) rfl (fun ls hl => ?_)
      refine lv_aloadN hx hb dX11_copy_14 (lv_at hl 1 rfl) ?_
      refine lv_ifnullN (tgt := 24) hx hb dX11_copy_16 (by decide) ?_
      refine lv_ldc (v := (-1000001)) hx hb hown (hts _ (List.mem_of_getElem? (i := 1) rfl)) dX11_copy_24 ?_
      exact hend H locs ((-1000001)) (L, ob_W D f oa C mk im mk ad n g) _ ls w ⟨(by (try simp only [lg_cmp_le, lg_cmp_ge, lg_cmp_lt, lg_cmp_gt, hs_if10, ← Int32.not_lt, ← Int64.not_lt, Classical.not_not] at hz_a hz_b); first | (simp [cs_copy, sp_found, sp_well, hz_a, hz_b]; done) | (simp [cs_copy, sp_found, sp_well, hz_a, hz_b]; done) | (exfalso; clear hend ; simp_all; done)), (ob_eq (by (try simp only [lg_cmp_le, lg_cmp_ge, lg_cmp_lt, lg_cmp_gt, hs_if10, ← Int32.not_lt, ← Int64.not_lt, Classical.not_not] at hz_a hz_b); first | (simp [cs_copy, sp_found, sp_well, hz_a, hz_b]; done) | (simp [cs_copy, sp_found, sp_well, hz_a, hz_b]; done) | (exfalso; clear hend ; simp_all; done)) rfl)⟩ rfl dX11_copy_26
    · subst e_b
      have h1r_b := hs_row_n hr_b
      have hcr_b : (nI r_b).toNatClampNeg = r_b := nI_clamp (by omega)
      refine lv_astore (lv' := [(7, .ref (oa (11 + r_b))), (6, .null), (0, .ref (oa 0)), (1, .int (a)), (2, .int (x)), (3, .int (nI r_b)), (4, .int (y)), (5, .int (k))]) hx hb dX11_copy_12 hl (by decide) rfl (fun ls hl => ?_)
      refine lv_aloadN hx hb dX11_copy_14 (lv_at hl 1 rfl) ?_
      refine lv_ifnullN (tgt := 24) hx hb dX11_copy_16 (by decide) ?_
      refine lv_ldc (v := (-1000001)) hx hb hown (hts _ (List.mem_of_getElem? (i := 1) rfl)) dX11_copy_24 ?_
      exact hend H locs ((-1000001)) (L, ob_W D f oa C mk im mk ad n g) _ ls w ⟨(by (try simp only [lg_cmp_le, lg_cmp_ge, lg_cmp_lt, lg_cmp_gt, hs_if10, ← Int32.not_lt, ← Int64.not_lt, Classical.not_not] at hz_a); first | (simp [cs_copy, sp_found, sp_well, hz_a, h1r_b, hcr_b]; done) | (simp [cs_copy, sp_found, sp_well, hz_a, h1r_b, hcr_b]; done) | (exfalso; clear hend ; simp_all; done)), (ob_eq (by (try simp only [lg_cmp_le, lg_cmp_ge, lg_cmp_lt, lg_cmp_gt, hs_if10, ← Int32.not_lt, ← Int64.not_lt, Classical.not_not] at hz_a); first | (simp [cs_copy, sp_found, sp_well, hz_a, h1r_b, hcr_b]; done) | (simp [cs_copy, sp_found, sp_well, hz_a, h1r_b, hcr_b]; done) | (exfalso; clear hend ; simp_all; done)) rfl)⟩ rfl dX11_copy_26
  · subst e_a
    have h1r_a := hs_row_n hr_a
    have hcr_a : (nI r_a).toNatClampNeg = r_a := nI_clamp (by omega)
    refine lv_astore (lv' := [(6, .ref (oa (11 + r_a))), (0, .ref (oa 0)), (1, .int (nI r_a)), (2, .int (x)), (3, .int (b)), (4, .int (y)), (5, .int (k))]) hx hb dX11_copy_5 hl (by decide) rfl (fun ls hl => ?_)
    refine lv_aload_n hx hb dX11_copy_7 rfl (lv_at hl 1 rfl) ?_
    refine lv_iload_n hx hb dX11_copy_8 rfl (lv_at hl 4 rfl) ?_
    refine hg_vqF (r := cs_ra oa b) (As := [.int (b)]) (rest := []) X w (c_X11_rowAt l D b0 L f oa C im mk ad n g hm hs ho b) (cwV 1 hts gX11_copy_X11_rowAt rfl rfl rfl hdX11_rowAt ⟨Nat.le_of_ble_eq_true rfl, Nat.le_of_ble_eq_true rfl⟩) (ho.1 0 (by decide)).1 (ow_at ho (k := 0) (by decide)) rfl rfl rfl hl.1 rfl (Nat.le_of_ble_eq_true rfl) dX11_copy_9 ⟨Nat.zero_le _, Nat.zero_le _⟩ (fun H locs w => ?_)
    refine ob_qr (fun hz_b => ?_) (fun r_b hr_b e_b => ?_)
    · refine lv_astoreN (lv' := [(7, .null), (6, .ref (oa (11 + r_a))), (0, .ref (oa 0)), (1, .int (nI r_a)), (2, .int (x)), (3, .int (b)), (4, .int (y)), (5, .int (k))]) hx hb dX11_copy_12 hl (by decide) rfl (fun ls hl => ?_)
      refine lv_aload hx hb dX11_copy_14 (lv_at hl 1 rfl) ?_
      refine lv_ifnull hx hb dX11_copy_16 ?_
      refine lv_aloadN hx hb dX11_copy_19 (lv_at hl 0 rfl) ?_
      refine lv_ifnonnullN hx hb dX11_copy_21 ?_
      refine lv_ldc (v := (-1000001)) hx hb hown (hts _ (List.mem_of_getElem? (i := 1) rfl)) dX11_copy_24 ?_
      exact hend H locs ((-1000001)) (L, ob_W D f oa C mk im mk ad n g) _ ls w ⟨(by (try simp only [lg_cmp_le, lg_cmp_ge, lg_cmp_lt, lg_cmp_gt, hs_if10, ← Int32.not_lt, ← Int64.not_lt, Classical.not_not] at hz_b); first | (simp [cs_copy, sp_found, sp_well, hz_b, h1r_a, hcr_a]; done) | (simp [cs_copy, sp_found, sp_well, hz_b, h1r_a, hcr_a]; done) | (exfalso; clear hend ; simp_all; done)), (ob_eq (by (try simp only [lg_cmp_le, lg_cmp_ge, lg_cmp_lt, lg_cmp_gt, hs_if10, ← Int32.not_lt, ← Int64.not_lt, Classical.not_not] at hz_b); first | (simp [cs_copy, sp_found, sp_well, hz_b, h1r_a, hcr_a]; done) | (simp [cs_copy, sp_found, sp_well, hz_b, h1r_a, hcr_a]; done) | (exfalso; clear hend ; simp_all; done)) rfl)⟩ rfl dX11_copy_26
    · subst e_b
      have h1r_b := hs_row_n hr_b
      have hcr_b : (nI r_b).toNatClampNeg = r_b := nI_clamp (by omega)
      refine lv_astore (lv' := [(7, .ref (oa (11 + r_b))), (6, .ref (oa (11 + r_a))), (0, .ref (oa 0)), (1, .int (nI r_a)), (2, .int (x)), (3, .int (nI r_b)), (4, .int (y)), (5, .int (k))]) hx hb dX11_copy_12 hl (by decide) rfl (fun ls hl => ?_)
      refine lv_aload hx hb dX11_copy_14 (lv_at hl 1 rfl) ?_
      refine lv_ifnull hx hb dX11_copy_16 ?_
      refine lv_aload hx hb dX11_copy_19 (lv_at hl 0 rfl) ?_
      refine lv_ifnonnull (tgt := 27) hx hb dX11_copy_21 (by decide) ?_
      refine lv_aload hx hb dX11_copy_27 (lv_at hl 1 rfl) ?_
      refine hg_viF (r := (mk_mis (C 3 r_a))) (As := []) (rest := []) X w (c_X5_isMissing l D b0 L f oa C mk im mk ad n g hm hs ho r_a hr_a) (cwV 0 hts gX11_copy_X5_isMissing rfl rfl rfl hdX5_isMissing ⟨Nat.le_of_ble_eq_true rfl, Nat.le_of_ble_eq_true rfl⟩) (ho.1 (11 + r_a) (by omega)).1 (by rw [ow_at ho (k := 11 + r_a) (by omega)]; exact ob_eR hr_a) rfl rfl rfl hl.1 rfl (Nat.le_of_ble_eq_true rfl) dX11_copy_29 ⟨Nat.zero_le _, Nat.zero_le _⟩ (fun H locs w => ?_)
      refine lv_if_ne (tgt := 43) hx hb dX11_copy_32 (by decide) (fun c_32 => ?_) (fun c_32 => ?_)
      · refine lv_aload_n hx hb dX11_copy_43 rfl (lv_at hl 2 rfl) ?_
        refine lv_iconst (v := 1) hx hb dX11_copy_44 (by decide) ?_
        refine hg_viF (r := (-1000010 - 1)) (As := [.int (1)]) (rest := []) X w (c_X11_found l D b0 L f oa C im mk ad n g hm hs ho 1) (cwV 1 hts gX11_copy_X11_found rfl rfl rfl hdX11_found ⟨Nat.le_of_ble_eq_true rfl, Nat.le_of_ble_eq_true rfl⟩) (ho.1 0 (by decide)).1 (ow_at ho (k := 0) (by decide)) rfl rfl rfl hl.1 rfl (Nat.le_of_ble_eq_true rfl) dX11_copy_45 ⟨Nat.zero_le _, Nat.zero_le _⟩ (fun H locs w => ?_)
        exact hend H locs ((-1000010 - 1)) (L, ob_W D f oa (mo_w C 7 0 1) mk im mk ad n g) _ ls w ⟨(by (try simp only [lg_cmp_le, lg_cmp_ge, lg_cmp_lt, lg_cmp_gt, hs_if10, ← Int32.not_lt, ← Int64.not_lt, Classical.not_not] at c_32); first | (simp [cs_copy, sp_found, sp_well, c_32, h1r_a, hcr_a, h1r_b, hcr_b]; done) | (simp [cs_copy, sp_found, sp_well, c_32, h1r_a, hcr_a, h1r_b, hcr_b]; done) | (exfalso; clear hend ; simp_all; done)), (ob_eq (by (try simp only [lg_cmp_le, lg_cmp_ge, lg_cmp_lt, lg_cmp_gt, hs_if10, ← Int32.not_lt, ← Int64.not_lt, Classical.not_not] at c_32); first | (simp [cs_copy, sp_found, sp_well, c_32, h1r_a, hcr_a, h1r_b, hcr_b]; done) | (simp [cs_copy, sp_found, sp_well, c_32, h1r_a, hcr_a, h1r_b, hcr_b]; done) | (exfalso; clear hend ; simp_all; done)) rfl)⟩ rfl dX11_copy_48
      · refine lv_aload hx hb dX11_copy_35 (lv_at hl 0 rfl) ?_
        refine hg_viF (r := (mk_mis (C 3 r_b))) (As := []) (rest := []) X w (c_X5_isMissing l D b0 L f oa C mk im mk ad n g hm hs ho r_b hr_b) (cwV 0 hts gX11_copy_X5_isMissing rfl rfl rfl hdX5_isMissing ⟨Nat.le_of_ble_eq_true rfl, Nat.le_of_ble_eq_true rfl⟩) (ho.1 (11 + r_b) (by omega)).1 (by rw [ow_at ho (k := 11 + r_b) (by omega)]; exact ob_eR hr_b) rfl rfl rfl hl.1 rfl (Nat.le_of_ble_eq_true rfl) dX11_copy_37 ⟨Nat.zero_le _, Nat.zero_le _⟩ (fun H locs w => ?_)
        refine lv_if_eq (tgt := 49) hx hb dX11_copy_40 (by decide) (fun c_40 => ?_) (fun c_40 => ?_)
        · refine lv_aload hx hb dX11_copy_49 (lv_at hl 1 rfl) ?_
          refine ob_get X w ho (11 + r_a) (by omega) (C0 := RX5) (T := TX5) (N := 3) (ci := 4) (ob_eR hr_a) hin5 rfl 0 (by decide) (List.mem_of_getElem? (i := 2) rfl) rfl rfl dX11_copy_51 ?_
          refine lv_aload hx hb dX11_copy_54 (lv_at hl 0 rfl) ?_
          refine ob_get X w ho (11 + r_b) (by omega) (C0 := RX5) (T := TX5) (N := 3) (ci := 4) (ob_eR hr_b) hin5 rfl 0 (by decide) (List.mem_of_getElem? (i := 2) rfl) rfl rfl dX11_copy_56 ?_
          refine lv_icmp_eq (tgt := 68) hx hb dX11_copy_59 (by decide) (fun c_59 => ?_) (fun c_59 => ?_)
          · refine lv_aload hx hb dX11_copy_68 (lv_at hl 1 rfl) ?_
            refine lv_iload_n hx hb dX11_copy_70 rfl (lv_at hl 4 rfl) ?_
            refine lv_iload hx hb dX11_copy_71 (lv_at hl 7 rfl) ?_
            refine hg_viF (r := (mk_has (C 4 r_a) x k)) (As := [.int (x), .int (k)]) (rest := []) X w (c_X5_has l D b0 L f oa C mk im mk ad n g hm hs ho r_a hr_a x k) (cwV 2 hts gX11_copy_X5_has rfl rfl rfl hdX5_has ⟨Nat.le_of_ble_eq_true rfl, Nat.le_of_ble_eq_true rfl⟩) (ho.1 (11 + r_a) (by omega)).1 (by rw [ow_at ho (k := 11 + r_a) (by omega)]; exact ob_eR hr_a) rfl rfl rfl hl.1 rfl (Nat.le_of_ble_eq_true rfl) dX11_copy_73 ⟨Nat.zero_le _, Nat.zero_le _⟩ (fun H locs w => ?_)
            refine lv_if_eq (tgt := 91) hx hb dX11_copy_76 (by decide) (fun c_76 => ?_) (fun c_76 => ?_)
            · refine lv_aload_n hx hb dX11_copy_91 rfl (lv_at hl 2 rfl) ?_
              refine lv_iconst (v := 2) hx hb dX11_copy_92 (by decide) ?_
              refine hg_viF (r := (-1000010 - 2)) (As := [.int (2)]) (rest := []) X w (c_X11_found l D b0 L f oa C im mk ad n g hm hs ho 2) (cwV 1 hts gX11_copy_X11_found rfl rfl rfl hdX11_found ⟨Nat.le_of_ble_eq_true rfl, Nat.le_of_ble_eq_true rfl⟩) (ho.1 0 (by decide)).1 (ow_at ho (k := 0) (by decide)) rfl rfl rfl hl.1 rfl (Nat.le_of_ble_eq_true rfl) dX11_copy_93 ⟨Nat.zero_le _, Nat.zero_le _⟩ (fun H locs w => ?_)
              exact hend H locs ((-1000010 - 2)) (L, ob_W D f oa (mo_w C 7 0 2) mk im mk ad n g) _ ls w ⟨(by (try simp only [lg_cmp_le, lg_cmp_ge, lg_cmp_lt, lg_cmp_gt, hs_if10, ← Int32.not_lt, ← Int64.not_lt, Classical.not_not] at c_32 c_40 c_59 c_76); first | (simp [cs_copy, sp_found, sp_well, c_32, c_40, c_59, c_76, h1r_a, hcr_a, h1r_b, hcr_b]; done) | (simp [cs_copy, sp_found, sp_well, eq_true c_32, eq_true c_40, eq_true c_59, eq_true c_76, h1r_a, hcr_a, h1r_b, hcr_b]; done) | (exfalso; clear hend ; simp_all; done)), (ob_eq (by (try simp only [lg_cmp_le, lg_cmp_ge, lg_cmp_lt, lg_cmp_gt, hs_if10, ← Int32.not_lt, ← Int64.not_lt, Classical.not_not] at c_32 c_40 c_59 c_76); first | (simp [cs_copy, sp_found, sp_well, c_32, c_40, c_59, c_76, h1r_a, hcr_a, h1r_b, hcr_b]; done) | (simp [cs_copy, sp_found, sp_well, eq_true c_32, eq_true c_40, eq_true c_59, eq_true c_76, h1r_a, hcr_a, h1r_b, hcr_b]; done) | (exfalso; clear hend ; simp_all; done)) rfl)⟩ rfl dX11_copy_96
            · refine lv_aload hx hb dX11_copy_79 (lv_at hl 0 rfl) ?_
              refine lv_iload hx hb dX11_copy_81 (lv_at hl 6 rfl) ?_
              refine lv_iload hx hb dX11_copy_83 (lv_at hl 7 rfl) ?_
              refine hg_viF (r := (mk_has (C 4 r_b) y k)) (As := [.int (y), .int (k)]) (rest := []) X w (c_X5_has l D b0 L f oa C mk im mk ad n g hm hs ho r_b hr_b y k) (cwV 2 hts gX11_copy_X5_has rfl rfl rfl hdX5_has ⟨Nat.le_of_ble_eq_true rfl, Nat.le_of_ble_eq_true rfl⟩) (ho.1 (11 + r_b) (by omega)).1 (by rw [ow_at ho (k := 11 + r_b) (by omega)]; exact ob_eR hr_b) rfl rfl rfl hl.1 rfl (Nat.le_of_ble_eq_true rfl) dX11_copy_85 ⟨Nat.zero_le _, Nat.zero_le _⟩ (fun H locs w => ?_)
              refine lv_if_ne (tgt := 97) hx hb dX11_copy_88 (by decide) (fun c_88 => ?_) (fun c_88 => ?_)
              · obtain ⟨z1, hz1, ez1⟩ := hsz r_a hr_a
                obtain ⟨z2, hz2, ez2⟩ := hsz r_b hr_b
                obtain ⟨i0, k0, e1, e2, h3⟩ := mk_has_ix hz1 ez1 c_76
                obtain ⟨j0, k1, e4, e5, h6⟩ := mk_has_ix hz2 ez2 c_88
                have hkk : k0 = k1 := (nI_eq (by omega) (by omega)).mp (e2.symm.trans e5)
                subst hkk
                subst e1
                subst e2
                subst e4
                have hci : (nI i0).toNatClampNeg = i0 := nI_clamp (by omega)
                have hcj : (nI j0).toNatClampNeg = j0 := nI_clamp (by omega)
                have hck : (nI k0).toNatClampNeg = k0 := nI_clamp (by omega)
                refine lv_aload hx hb dX11_copy_97 (lv_at hl 1 rfl) ?_
                refine ob_get X w ho (11 + r_a) (by omega) (C0 := RX5) (T := TX5) (N := 3) (ci := 4) (ob_eR hr_a) hin5 rfl 2 (by decide) (List.mem_of_getElem? (i := 3) rfl) rfl rfl dX11_copy_99 ?_
                refine lv_iload_n hx hb dX11_copy_102 rfl (lv_at hl 4 rfl) ?_
                refine lv_aload hx hb dX11_copy_103 (lv_at hl 0 rfl) ?_
                refine ob_get X w ho (11 + r_b) (by omega) (C0 := RX5) (T := TX5) (N := 3) (ci := 4) (ob_eR hr_b) hin5 rfl 2 (by decide) (List.mem_of_getElem? (i := 3) rfl) rfl rfl dX11_copy_105 ?_
                refine lv_iload hx hb dX11_copy_108 (lv_at hl 6 rfl) ?_
                refine lv_iload hx hb dX11_copy_110 (lv_at hl 7 rfl) ?_
                refine ob_copy X w ho hr_a hr_b i0 j0 k0 rfl rfl rfl (by omega) (by omega) (List.mem_of_getElem? (i := 4) rfl) (List.mem_of_getElem? (i := 5) rfl) (List.mem_of_getElem? (i := 6) rfl) (List.mem_of_getElem? (i := 7) rfl) hl.1 (Nat.le_of_ble_eq_true rfl) (Nat.le_of_ble_eq_true rfl) dX11_copy_112 (fun H locs w => ?_)
                refine lv_aload_n hx hb dX11_copy_115 rfl (lv_at hl 2 rfl) ?_
                refine lv_iload hx hb dX11_copy_116 (lv_at hl 7 rfl) ?_
                refine hg_viF (r := nI k0) (As := [.int (nI k0)]) (rest := []) X w (c_X11_unfound l D b0 L f oa (va_up C 5 (cs_cp (C 5) (40 * r_a + i0) (40 * r_b + j0) k0)) im mk ad n g hm hs ho (nI k0)) (cwV 1 hts gX11_copy_X11_unfound rfl rfl rfl hdX11_unfound ⟨Nat.le_of_ble_eq_true rfl, Nat.le_of_ble_eq_true rfl⟩) (ho.1 0 (by decide)).1 (ow_at ho (k := 0) (by decide)) rfl rfl rfl hl.1 rfl (Nat.le_of_ble_eq_true rfl) dX11_copy_118 ⟨Nat.zero_le _, Nat.zero_le _⟩ (fun H locs w => ?_)
                exact hend H locs (nI k0) (L, ob_W D f oa (mo_w (va_up C 5 (cs_cp (C 5) (40 * r_a + i0) (40 * r_b + j0) k0)) 7 0 0) mk im mk ad n g) _ ls w ⟨(by (try simp only [lg_cmp_le, lg_cmp_ge, lg_cmp_lt, lg_cmp_gt, hs_if10, ← Int32.not_lt, ← Int64.not_lt, Classical.not_not] at c_32 c_40 c_59 c_76 c_88); first | (simp [cs_copy, sp_found, sp_well, c_32, c_40, c_59, c_76, c_88, h1r_a, hcr_a, h1r_b, hcr_b, hci, hcj, hck]; done) | (simp [cs_copy, sp_found, sp_well, eq_true c_32, eq_true c_40, eq_true c_59, c_76, c_88, h1r_a, hcr_a, h1r_b, hcr_b, hci, hcj, hck]; done) | (exfalso; clear hend ; simp_all; done)), (ob_eq (by (try simp only [lg_cmp_le, lg_cmp_ge, lg_cmp_lt, lg_cmp_gt, hs_if10, ← Int32.not_lt, ← Int64.not_lt, Classical.not_not] at c_32 c_40 c_59 c_76 c_88); first | (simp [cs_copy, sp_found, sp_well, c_32, c_40, c_59, c_76, c_88, h1r_a, hcr_a, h1r_b, hcr_b, hci, hcj, hck]; done) | (simp [cs_copy, sp_found, sp_well, eq_true c_32, eq_true c_40, eq_true c_59, c_76, c_88, h1r_a, hcr_a, h1r_b, hcr_b, hci, hcj, hck]; done) | (exfalso; clear hend ; simp_all; done)) rfl)⟩ rfl dX11_copy_121
              · refine lv_aload_n hx hb dX11_copy_91 rfl (lv_at hl 2 rfl) ?_
                refine lv_iconst (v := 2) hx hb dX11_copy_92 (by decide) ?_
                refine hg_viF (r := (-1000010 - 2)) (As := [.int (2)]) (rest := []) X w (c_X11_found l D b0 L f oa C im mk ad n g hm hs ho 2) (cwV 1 hts gX11_copy_X11_found rfl rfl rfl hdX11_found ⟨Nat.le_of_ble_eq_true rfl, Nat.le_of_ble_eq_true rfl⟩) (ho.1 0 (by decide)).1 (ow_at ho (k := 0) (by decide)) rfl rfl rfl hl.1 rfl (Nat.le_of_ble_eq_true rfl) dX11_copy_93 ⟨Nat.zero_le _, Nat.zero_le _⟩ (fun H locs w => ?_)
                exact hend H locs ((-1000010 - 2)) (L, ob_W D f oa (mo_w C 7 0 2) mk im mk ad n g) _ ls w ⟨(by (try simp only [lg_cmp_le, lg_cmp_ge, lg_cmp_lt, lg_cmp_gt, hs_if10, ← Int32.not_lt, ← Int64.not_lt, Classical.not_not] at c_32 c_40 c_59 c_76 c_88); first | (simp [cs_copy, sp_found, sp_well, c_32, c_40, c_59, c_76, c_88, h1r_a, hcr_a, h1r_b, hcr_b]; done) | (simp [cs_copy, sp_found, sp_well, eq_true c_32, eq_true c_40, eq_true c_59, c_76, eq_true c_88, h1r_a, hcr_a, h1r_b, hcr_b]; done) | (exfalso; clear hend ; simp_all; done)), (ob_eq (by (try simp only [lg_cmp_le, lg_cmp_ge, lg_cmp_lt, lg_cmp_gt, hs_if10, ← Int32.not_lt, ← Int64.not_lt, Classical.not_not] at c_32 c_40 c_59 c_76 c_88); first | (simp [cs_copy, sp_found, sp_well, c_32, c_40, c_59, c_76, c_88, h1r_a, hcr_a, h1r_b, hcr_b]; done) | (simp [cs_copy, sp_found, sp_well, eq_true c_32, eq_true c_40, eq_true c_59, c_76, eq_true c_88, h1r_a, hcr_a, h1r_b, hcr_b]; done) | (exfalso; clear hend ; simp_all; done)) rfl)⟩ rfl dX11_copy_96
          · refine lv_aload_n hx hb dX11_copy_62 rfl (lv_at hl 2 rfl) ?_
            refine lv_iconst (v := 5) hx hb dX11_copy_63 (by decide) ?_
            refine hg_viF (r := (-1000010 - 5)) (As := [.int (5)]) (rest := []) X w (c_X11_found l D b0 L f oa C im mk ad n g hm hs ho 5) (cwV 1 hts gX11_copy_X11_found rfl rfl rfl hdX11_found ⟨Nat.le_of_ble_eq_true rfl, Nat.le_of_ble_eq_true rfl⟩) (ho.1 0 (by decide)).1 (ow_at ho (k := 0) (by decide)) rfl rfl rfl hl.1 rfl (Nat.le_of_ble_eq_true rfl) dX11_copy_64 ⟨Nat.zero_le _, Nat.zero_le _⟩ (fun H locs w => ?_)
            exact hend H locs ((-1000010 - 5)) (L, ob_W D f oa (mo_w C 7 0 5) mk im mk ad n g) _ ls w ⟨(by (try simp only [lg_cmp_le, lg_cmp_ge, lg_cmp_lt, lg_cmp_gt, hs_if10, ← Int32.not_lt, ← Int64.not_lt, Classical.not_not] at c_32 c_40 c_59); first | (simp [cs_copy, sp_found, sp_well, c_32, c_40, c_59, h1r_a, hcr_a, h1r_b, hcr_b]; done) | (simp [cs_copy, sp_found, sp_well, eq_true c_32, eq_true c_40, c_59, h1r_a, hcr_a, h1r_b, hcr_b]; done) | (exfalso; clear hend ; simp_all; done)), (ob_eq (by (try simp only [lg_cmp_le, lg_cmp_ge, lg_cmp_lt, lg_cmp_gt, hs_if10, ← Int32.not_lt, ← Int64.not_lt, Classical.not_not] at c_32 c_40 c_59); first | (simp [cs_copy, sp_found, sp_well, c_32, c_40, c_59, h1r_a, hcr_a, h1r_b, hcr_b]; done) | (simp [cs_copy, sp_found, sp_well, eq_true c_32, eq_true c_40, c_59, h1r_a, hcr_a, h1r_b, hcr_b]; done) | (exfalso; clear hend ; simp_all; done)) rfl)⟩ rfl dX11_copy_67
        · refine lv_aload_n hx hb dX11_copy_43 rfl (lv_at hl 2 rfl) ?_
          refine lv_iconst (v := 1) hx hb dX11_copy_44 (by decide) ?_
          refine hg_viF (r := (-1000010 - 1)) (As := [.int (1)]) (rest := []) X w (c_X11_found l D b0 L f oa C im mk ad n g hm hs ho 1) (cwV 1 hts gX11_copy_X11_found rfl rfl rfl hdX11_found ⟨Nat.le_of_ble_eq_true rfl, Nat.le_of_ble_eq_true rfl⟩) (ho.1 0 (by decide)).1 (ow_at ho (k := 0) (by decide)) rfl rfl rfl hl.1 rfl (Nat.le_of_ble_eq_true rfl) dX11_copy_45 ⟨Nat.zero_le _, Nat.zero_le _⟩ (fun H locs w => ?_)
          exact hend H locs ((-1000010 - 1)) (L, ob_W D f oa (mo_w C 7 0 1) mk im mk ad n g) _ ls w ⟨(by (try simp only [lg_cmp_le, lg_cmp_ge, lg_cmp_lt, lg_cmp_gt, hs_if10, ← Int32.not_lt, ← Int64.not_lt, Classical.not_not] at c_32 c_40); first | (simp [cs_copy, sp_found, sp_well, c_32, c_40, h1r_a, hcr_a, h1r_b, hcr_b]; done) | (simp [cs_copy, sp_found, sp_well, eq_true c_32, c_40, h1r_a, hcr_a, h1r_b, hcr_b]; done) | (exfalso; clear hend ; simp_all; done)), (ob_eq (by (try simp only [lg_cmp_le, lg_cmp_ge, lg_cmp_lt, lg_cmp_gt, hs_if10, ← Int32.not_lt, ← Int64.not_lt, Classical.not_not] at c_32 c_40); first | (simp [cs_copy, sp_found, sp_well, c_32, c_40, h1r_a, hcr_a, h1r_b, hcr_b]; done) | (simp [cs_copy, sp_found, sp_well, eq_true c_32, c_40, h1r_a, hcr_a, h1r_b, hcr_b]; done) | (exfalso; clear hend ; simp_all; done)) rfl)⟩ rfl dX11_copy_48
set_option maxRecDepth 100000 in
set_option maxHeartbeats 4000000 in
theorem c_X11_noMarket (l : Launch) (D : va_G) (b0 : Nat) (L : List Nat) (f : Nat → va_E) (oa : Nat → Nat) (C : Nat → Nat → Int32) (im : Nat → Option Nat) (mk : Nat) (ad : Nat → Nat) (n : Nat) (g : Nat → Int32) (hm : mk_ok L mk ad n) (hs : mk_sr g n) (ho : ob_ok L oa mk ad n)  : hg_Fi l yX11_noMarket wsX11_noMarket ({ frames := 0, cells := 0, slots := 0, locals := 0 }) D b0 L (ob_W D f oa C mk im mk ad n g) [.ref (oa 0)] (if g 2 = 0 then 1 else 0) (ob_W D f oa C mk im mk ad n g) := by
  refine hg_in_i (cc := cX11_noMarket) (nL := 1) (by decide) rfl (Nat.le_of_ble_eq_true rfl) (fun p e s m args below meth c R Q X hR hend H locs ls w hl => ?_)
  subst hR
  obtain ⟨hx, hb, hml, hown, hts⟩ := id X.1
  have hin3 : ∀ w ∈ wsX30, w ∈ wsX11_noMarket := fun w h => List.mem_cons_of_mem _ (List.mem_append_right _ h)
  have hin11 : ∀ w ∈ wsX110, w ∈ wsX11_noMarket := fun w h => List.mem_cons_of_mem _ (List.mem_append_left _ (List.mem_append_right _ h))
  have hl : lv_has ls 1 [(0, .ref (oa 0))] := hl
  refine lv_aload_n hx hb dX11_noMarket_0 rfl (lv_at hl 0 rfl) ?_
  refine ob_get X w ho 0 (by decide) (C0 := RX11) (T := TX11) (N := 12) (ci := 9) rfl hin11 rfl 9 (by decide) (List.mem_of_getElem? (i := 1) rfl) rfl rfl dX11_noMarket_1 ?_
  refine mk_getM X w hm hin3 2 (by decide) (List.mem_of_getElem? (i := 2) rfl) rfl dX11_noMarket_4 ?_
  refine lv_if_ne (tgt := 14) hx hb dX11_noMarket_7 (by decide) (fun c_7 => ?_) (fun c_7 => ?_)
  · refine lv_iconst (v := 0) hx hb dX11_noMarket_14 (by decide) ?_
    exact hend H locs (0) (L, ob_W D f oa C mk im mk ad n g) _ ls w ⟨(by (try simp only [lg_cmp_le, lg_cmp_ge, lg_cmp_lt, lg_cmp_gt, hs_if10, ← Int32.not_lt, ← Int64.not_lt, Classical.not_not] at c_7); first | (simp [c_7]; done) | (simp [c_7]; done) | (exfalso; clear hend ; simp_all; done)), rfl⟩ (by decide) dX11_noMarket_15
  · refine lv_iconst (v := 1) hx hb dX11_noMarket_10 (by decide) ?_
    refine lv_goto (tgt := 15) hx hb dX11_noMarket_11 (by decide) ?_
    exact hend H locs (1) (L, ob_W D f oa C mk im mk ad n g) _ ls w ⟨(by (try simp only [lg_cmp_le, lg_cmp_ge, lg_cmp_lt, lg_cmp_gt, hs_if10, ← Int32.not_lt, ← Int64.not_lt, Classical.not_not] at c_7); first | (simp [c_7]; done) | (simp [eq_true c_7]; done) | (exfalso; clear hend ; simp_all; done)), rfl⟩ (by decide) dX11_noMarket_15
set_option maxRecDepth 100000 in
set_option maxHeartbeats 4000000 in
theorem c_X11_noRope (l : Launch) (D : va_G) (b0 : Nat) (L : List Nat) (f : Nat → va_E) (oa : Nat → Nat) (C : Nat → Nat → Int32) (im : Nat → Option Nat) (mk : Nat) (ad : Nat → Nat) (n : Nat) (g : Nat → Int32) (hm : mk_ok L mk ad n) (hs : mk_sr g n) (ho : ob_ok L oa mk ad n) (nr : Nat) (ht : mk_t g nr) (rope : Int32) : hg_Fi l yX11_noRope wsX11_noRope ({ frames := 0, cells := 0, slots := 0, locals := 0 }) D b0 L (ob_W D f oa C mk im mk ad n g) [.ref (oa 0), .int (rope)] (if hs_isRo g rope = 0 then 1 else 0) (ob_W D f oa C mk im mk ad n g) := by
  refine hg_in_i (cc := cX11_noRope) (nL := 2) (by decide) rfl (Nat.le_of_ble_eq_true rfl) (fun p e s m args below meth c R Q X hR hend H locs ls w hl => ?_)
  subst hR
  obtain ⟨hx, hb, hml, hown, hts⟩ := id X.1
  have hin3 : ∀ w ∈ wsX30, w ∈ wsX11_noRope := fun w h => List.mem_cons_of_mem _ (List.mem_append_right _ h)
  have hin11 : ∀ w ∈ wsX110, w ∈ wsX11_noRope := fun w h => List.mem_cons_of_mem _ (List.mem_append_left _ (List.mem_append_right _ h))
  have hl : lv_has ls 2 [(0, .ref (oa 0)), (1, .int (rope))] := hl
  refine lv_iload_n hx hb dX11_noRope_0 rfl (lv_at hl 1 rfl) ?_
  refine lv_if_lt (tgt := 20) hx hb dX11_noRope_1 (by decide) (fun c_1 => ?_) (fun c_1 => ?_)
  · refine lv_iconst (v := 1) hx hb dX11_noRope_20 (by decide) ?_
    refine lv_goto (tgt := 25) hx hb dX11_noRope_21 (by decide) ?_
    exact hend H locs (1) (L, ob_W D f oa C mk im mk ad n g) _ ls w ⟨(if_pos (cs_ro_0 ht (Or.inl c_1))).symm, rfl⟩ (by decide) dX11_noRope_25
  · refine lv_iload_n hx hb dX11_noRope_4 rfl (lv_at hl 1 rfl) ?_
    refine lv_aload_n hx hb dX11_noRope_5 rfl (lv_at hl 0 rfl) ?_
    refine ob_get X w ho 0 (by decide) (C0 := RX11) (T := TX11) (N := 12) (ci := 9) rfl hin11 rfl 9 (by decide) (List.mem_of_getElem? (i := 1) rfl) rfl rfl dX11_noRope_6 ?_
    refine mk_getM X w hm hin3 2 (by decide) (List.mem_of_getElem? (i := 2) rfl) rfl dX11_noRope_9 ?_
    refine lv_icmp_ge (tgt := 20) hx hb dX11_noRope_12 (by decide) (fun c_12 => ?_) (fun c_12 => ?_)
    · refine lv_iconst (v := 1) hx hb dX11_noRope_20 (by decide) ?_
      refine lv_goto (tgt := 25) hx hb dX11_noRope_21 (by decide) ?_
      exact hend H locs (1) (L, ob_W D f oa C mk im mk ad n g) _ ls w ⟨(if_pos (cs_ro_0 ht (Or.inr (Or.inl c_12)))).symm, rfl⟩ (by decide) dX11_noRope_25
    · refine lv_iload_n hx hb dX11_noRope_15 rfl (lv_at hl 1 rfl) ?_
      refine lv_iconst (v := 3) hx hb dX11_noRope_16 (by decide) ?_
      refine lv_icmp_lt (tgt := 24) hx hb dX11_noRope_17 (by decide) (fun c_17 => ?_) (fun c_17 => ?_)
      · refine lv_iconst (v := 0) hx hb dX11_noRope_24 (by decide) ?_
        exact hend H locs (0) (L, ob_W D f oa C mk im mk ad n g) _ ls w ⟨(by obtain ⟨r, hr, rfl⟩ := cs_ro_n ht c_1 c_12; rw [cs_ro_1 ht hr, if_neg (by decide)]), rfl⟩ (by decide) dX11_noRope_25
      · refine lv_iconst (v := 1) hx hb dX11_noRope_20 (by decide) ?_
        refine lv_goto (tgt := 25) hx hb dX11_noRope_21 (by decide) ?_
        exact hend H locs (1) (L, ob_W D f oa C mk im mk ad n g) _ ls w ⟨(if_pos (cs_ro_0 ht (Or.inr (Or.inr c_17)))).symm, rfl⟩ (by decide) dX11_noRope_25
set_option maxRecDepth 100000 in
set_option maxHeartbeats 4000000 in
theorem c_X11_noPlace (l : Launch) (D : va_G) (b0 : Nat) (L : List Nat) (f : Nat → va_E) (oa : Nat → Nat) (C : Nat → Nat → Int32) (im : Nat → Option Nat) (mk : Nat) (ad : Nat → Nat) (n : Nat) (g : Nat → Int32) (hm : mk_ok L mk ad n) (hs : mk_sr g n) (ho : ob_ok L oa mk ad n) (x : Int32) : hg_Fi l yX11_noPlace wsX11_noPlace ({ frames := 0, cells := 0, slots := 0, locals := 0 }) D b0 L (ob_W D f oa C mk im mk ad n g) [.int (x)] (if hs_in x 1 8 = 0 then 1 else 0) (ob_W D f oa C mk im mk ad n g) := by
  refine hg_in_i (cc := cX11_noPlace) (nL := 1) (by decide) rfl (Nat.le_of_ble_eq_true rfl) (fun p e s m args below meth c R Q X hR hend H locs ls w hl => ?_)
  subst hR
  obtain ⟨hx, hb, hml, hown, hts⟩ := id X.1
  have hl : lv_has ls 1 [(0, .int (x))] := hl
  refine lv_iload_n hx hb dX11_noPlace_0 rfl (lv_at hl 0 rfl) ?_
  refine lv_iconst (v := 1) hx hb dX11_noPlace_1 (by decide) ?_
  refine lv_icmp_lt (tgt := 11) hx hb dX11_noPlace_2 (by decide) (fun c_2 => ?_) (fun c_2 => ?_)
  · refine lv_iconst (v := 1) hx hb dX11_noPlace_11 (by decide) ?_
    refine lv_goto (tgt := 16) hx hb dX11_noPlace_12 (by decide) ?_
    exact hend H locs (1) (L, ob_W D f oa C mk im mk ad n g) _ ls w ⟨(by (try simp only [lg_cmp_le, lg_cmp_ge, lg_cmp_lt, lg_cmp_gt, hs_if10, ← Int32.not_lt, ← Int64.not_lt, Classical.not_not] at c_2); first | (simp [hs_inX, c_2]; done) | (simp [hs_inX, c_2]; done) | (exfalso; clear hend ; simp_all; done)), rfl⟩ (by decide) dX11_noPlace_16
  · refine lv_iload_n hx hb dX11_noPlace_5 rfl (lv_at hl 0 rfl) ?_
    refine lv_bipush (v := 8) hx hb dX11_noPlace_6 (by decide) ?_
    refine lv_icmp_le (tgt := 15) hx hb dX11_noPlace_8 (by decide) (fun c_8 => ?_) (fun c_8 => ?_)
    · refine lv_iconst (v := 0) hx hb dX11_noPlace_15 (by decide) ?_
      exact hend H locs (0) (L, ob_W D f oa C mk im mk ad n g) _ ls w ⟨(by (try simp only [lg_cmp_le, lg_cmp_ge, lg_cmp_lt, lg_cmp_gt, hs_if10, ← Int32.not_lt, ← Int64.not_lt, Classical.not_not] at c_2 c_8); first | (simp [hs_inX, c_2, c_8]; done) | (simp [hs_inX, c_2, c_8]; done) | (exfalso; clear hend ; simp_all; done)), rfl⟩ (by decide) dX11_noPlace_16
    · refine lv_iconst (v := 1) hx hb dX11_noPlace_11 (by decide) ?_
      refine lv_goto (tgt := 16) hx hb dX11_noPlace_12 (by decide) ?_
      exact hend H locs (1) (L, ob_W D f oa C mk im mk ad n g) _ ls w ⟨(by (try simp only [lg_cmp_le, lg_cmp_ge, lg_cmp_lt, lg_cmp_gt, hs_if10, ← Int32.not_lt, ← Int64.not_lt, Classical.not_not] at c_2 c_8); first | (simp [hs_inX, c_2, c_8]; done) | (simp [hs_inX, c_2, c_8]; done) | (exfalso; clear hend ; simp_all; done)), rfl⟩ (by decide) dX11_noPlace_16
set_option maxRecDepth 100000 in
set_option maxHeartbeats 4000000 in
theorem c_X11_noImage (l : Launch) (D : va_G) (b0 : Nat) (L : List Nat) (f : Nat → va_E) (oa : Nat → Nat) (C : Nat → Nat → Int32) (im : Nat → Option Nat) (mk : Nat) (ad : Nat → Nat) (n : Nat) (g : Nat → Int32) (hm : mk_ok L mk ad n) (hs : mk_sr g n) (ho : ob_ok L oa mk ad n) (x : Int32) : hg_Fi l yX11_noImage wsX11_noImage ({ frames := 0, cells := 0, slots := 0, locals := 0 }) D b0 L (ob_W D f oa C mk im mk ad n g) [.int (x)] (if hs_in x 0 1 = 0 then 1 else 0) (ob_W D f oa C mk im mk ad n g) := by
  refine hg_in_i (cc := cX11_noImage) (nL := 1) (by decide) rfl (Nat.le_of_ble_eq_true rfl) (fun p e s m args below meth c R Q X hR hend H locs ls w hl => ?_)
  subst hR
  obtain ⟨hx, hb, hml, hown, hts⟩ := id X.1
  have hl : lv_has ls 1 [(0, .int (x))] := hl
  refine lv_iload_n hx hb dX11_noImage_0 rfl (lv_at hl 0 rfl) ?_
  refine lv_if_lt (tgt := 9) hx hb dX11_noImage_1 (by decide) (fun c_1 => ?_) (fun c_1 => ?_)
  · refine lv_iconst (v := 1) hx hb dX11_noImage_9 (by decide) ?_
    refine lv_goto (tgt := 14) hx hb dX11_noImage_10 (by decide) ?_
    exact hend H locs (1) (L, ob_W D f oa C mk im mk ad n g) _ ls w ⟨(by rw [hs_inX, if_pos (Or.inl c_1), if_pos rfl]), rfl⟩ (by decide) dX11_noImage_14
  · refine lv_iload_n hx hb dX11_noImage_4 rfl (lv_at hl 0 rfl) ?_
    refine lv_iconst (v := 2) hx hb dX11_noImage_5 (by decide) ?_
    refine lv_icmp_lt (tgt := 13) hx hb dX11_noImage_6 (by decide) (fun c_6 => ?_) (fun c_6 => ?_)
    · refine lv_iconst (v := 0) hx hb dX11_noImage_13 (by decide) ?_
      exact hend H locs (0) (L, ob_W D f oa C mk im mk ad n g) _ ls w ⟨(by rw [show hs_in x 0 1 = 1 from (hs_inX x 0 1).trans (if_neg (fun q => q.elim c_1 (fun q => absurd q (by rw [← hs_lt2]; exact c_6))))]; rfl), rfl⟩ (by decide) dX11_noImage_14
    · refine lv_iconst (v := 1) hx hb dX11_noImage_9 (by decide) ?_
      refine lv_goto (tgt := 14) hx hb dX11_noImage_10 (by decide) ?_
      exact hend H locs (1) (L, ob_W D f oa C mk im mk ad n g) _ ls w ⟨(by rw [hs_inX, if_pos (Or.inr (by rw [hs_lt2] at c_6; exact Classical.not_not.mp c_6)), if_pos rfl]), rfl⟩ (by decide) dX11_noImage_14
set_option maxRecDepth 100000 in
set_option maxHeartbeats 4000000 in
theorem c_X11_isNoBit (l : Launch) (D : va_G) (b0 : Nat) (L : List Nat) (f : Nat → va_E) (oa : Nat → Nat) (C : Nat → Nat → Int32) (im : Nat → Option Nat) (mk : Nat) (ad : Nat → Nat) (n : Nat) (g : Nat → Int32) (hm : mk_ok L mk ad n) (hs : mk_sr g n) (ho : ob_ok L oa mk ad n) (x : Int32) : hg_Fi l yX11_isNoBit wsX11_isNoBit ({ frames := 0, cells := 0, slots := 0, locals := 0 }) D b0 L (ob_W D f oa C mk im mk ad n g) [.int (x)] (if hs_in x 0 1 = 0 then 1 else 0) (ob_W D f oa C mk im mk ad n g) := by
  refine hg_in_i (cc := cX11_isNoBit) (nL := 1) (by decide) rfl (Nat.le_of_ble_eq_true rfl) (fun p e s m args below meth c R Q X hR hend H locs ls w hl => ?_)
  subst hR
  obtain ⟨hx, hb, hml, hown, hts⟩ := id X.1
  have hl : lv_has ls 1 [(0, .int (x))] := hl
  refine lv_iload_n hx hb dX11_isNoBit_0 rfl (lv_at hl 0 rfl) ?_
  refine lv_if_eq (tgt := 13) hx hb dX11_isNoBit_1 (by decide) (fun c_1 => ?_) (fun c_1 => ?_)
  · refine lv_iconst (v := 0) hx hb dX11_isNoBit_13 (by decide) ?_
    exact hend H locs (0) (L, ob_W D f oa C mk im mk ad n g) _ ls w ⟨(by rw [c_1]; rfl), rfl⟩ (by decide) dX11_isNoBit_14
  · refine lv_iload_n hx hb dX11_isNoBit_4 rfl (lv_at hl 0 rfl) ?_
    refine lv_iconst (v := 1) hx hb dX11_isNoBit_5 (by decide) ?_
    refine lv_icmp_eq (tgt := 13) hx hb dX11_isNoBit_6 (by decide) (fun c_6 => ?_) (fun c_6 => ?_)
    · refine lv_iconst (v := 0) hx hb dX11_isNoBit_13 (by decide) ?_
      exact hend H locs (0) (L, ob_W D f oa C mk im mk ad n g) _ ls w ⟨(by rw [c_6]; rfl), rfl⟩ (by decide) dX11_isNoBit_14
    · refine lv_iconst (v := 1) hx hb dX11_isNoBit_9 (by decide) ?_
      refine lv_goto (tgt := 14) hx hb dX11_isNoBit_10 (by decide) ?_
      exact hend H locs (1) (L, ob_W D f oa C mk im mk ad n g) _ ls w ⟨(by rw [hs_in01 c_1 c_6, if_pos rfl]), rfl⟩ (by decide) dX11_isNoBit_14
set_option maxRecDepth 100000 in
set_option maxHeartbeats 4000000 in
theorem c_X11_forgetOldestAct (l : Launch) (D : va_G) (b0 : Nat) (L : List Nat) (f : Nat → va_E) (oa : Nat → Nat) (C : Nat → Nat → Int32) (im : Nat → Option Nat) (mk : Nat) (ad : Nat → Nat) (n : Nat) (g : Nat → Int32) (hm : mk_ok L mk ad n) (hs : mk_sr g n) (ho : ob_ok L oa mk ad n)  : hg_Fv l yX11_forgetOldestAct wsX11_forgetOldestAct ({ frames := 1, cells := 0, slots := 0, locals := 18 }) D b0 L (ob_W D f oa C mk im mk ad n g) [.ref (oa 0)] (ob_W D f oa (cs_forget C) mk im mk ad n g) := by
  refine hg_in_v (cc := cX11_forgetOldestAct) (nL := 1) (by decide) rfl (Nat.le_of_ble_eq_true rfl) (fun p e s m args below meth c R Q X _ hR hend H locs ls w hl => ?_)
  subst hR
  obtain ⟨hx, hb, hml, hown, hts⟩ := id X.1
  have hin11 : ∀ w ∈ wsX110, w ∈ wsX11_forgetOldestAct := fun w h => List.mem_cons_of_mem _ (List.mem_append_right _ h)
  have hl : lv_has ls 1 [(0, .ref (oa 0))] := hl
  refine lv_aload_n hx hb dX11_forgetOldestAct_0 rfl (lv_at hl 0 rfl) ?_
  refine lv_bipush (v := 23) hx hb dX11_forgetOldestAct_1 (by decide) ?_
  refine ob_put X w ho 0 (by decide) (C0 := RX11) (T := TX11) (N := 12) (ci := 9) rfl hin11 tyX11_ok nmX11 rfl 8 (by decide) (List.mem_of_getElem? (i := 1) rfl) rfl rfl rfl (by show _ < 12; decide) 1 0 rfl (ob_o0 _ _ (by decide) 0) dX11_forgetOldestAct_3 (fun H locs w => ?_)
  refine lv_aload_n hx hb dX11_forgetOldestAct_6 rfl (lv_at hl 0 rfl) ?_
  refine ob_get X w ho 0 (by decide) (C0 := RX11) (T := TX11) (N := 12) (ci := 9) rfl hin11 rfl 5 (by decide) (List.mem_of_getElem? (i := 2) rfl) rfl rfl dX11_forgetOldestAct_7 ?_
  refine lv_iconst (v := 1) hx hb dX11_forgetOldestAct_10 (by decide) ?_
  refine lv_aload_n hx hb dX11_forgetOldestAct_11 rfl (lv_at hl 0 rfl) ?_
  refine ob_get X w ho 0 (by decide) (C0 := RX11) (T := TX11) (N := 12) (ci := 9) rfl hin11 rfl 5 (by decide) (List.mem_of_getElem? (i := 2) rfl) rfl rfl dX11_forgetOldestAct_12 ?_
  refine lv_iconst (v := 0) hx hb dX11_forgetOldestAct_15 (by decide) ?_
  refine lv_aload_n hx hb dX11_forgetOldestAct_16 rfl (lv_at hl 0 rfl) ?_
  refine ob_get X w ho 0 (by decide) (C0 := RX11) (T := TX11) (N := 12) (ci := 9) rfl hin11 rfl 8 (by decide) (List.mem_of_getElem? (i := 1) rfl) rfl rfl dX11_forgetOldestAct_17 ?_
  refine ob_shift X w ho 8 21 (by decide) rfl rfl rfl (List.mem_of_getElem? (i := 3) rfl) (List.mem_of_getElem? (i := 4) rfl) (List.mem_of_getElem? (i := 5) rfl) (List.mem_of_getElem? (i := 6) rfl) hl.1 (Nat.le_of_ble_eq_true rfl) (Nat.le_of_ble_eq_true rfl) dX11_forgetOldestAct_20 (fun H locs w => ?_)
  refine lv_aload_n hx hb dX11_forgetOldestAct_23 rfl (lv_at hl 0 rfl) ?_
  refine ob_get X w ho 0 (by decide) (C0 := RX11) (T := TX11) (N := 12) (ci := 9) rfl hin11 rfl 6 (by decide) (List.mem_of_getElem? (i := 7) rfl) rfl rfl dX11_forgetOldestAct_24 ?_
  refine lv_iconst (v := 1) hx hb dX11_forgetOldestAct_27 (by decide) ?_
  refine lv_aload_n hx hb dX11_forgetOldestAct_28 rfl (lv_at hl 0 rfl) ?_
  refine ob_get X w ho 0 (by decide) (C0 := RX11) (T := TX11) (N := 12) (ci := 9) rfl hin11 rfl 6 (by decide) (List.mem_of_getElem? (i := 7) rfl) rfl rfl dX11_forgetOldestAct_29 ?_
  refine lv_iconst (v := 0) hx hb dX11_forgetOldestAct_32 (by decide) ?_
  refine lv_aload_n hx hb dX11_forgetOldestAct_33 rfl (lv_at hl 0 rfl) ?_
  refine ob_get X w ho 0 (by decide) (C0 := RX11) (T := TX11) (N := 12) (ci := 9) rfl hin11 rfl 8 (by decide) (List.mem_of_getElem? (i := 1) rfl) rfl rfl dX11_forgetOldestAct_34 ?_
  refine ob_shift X w ho 9 22 (by decide) rfl rfl rfl (List.mem_of_getElem? (i := 3) rfl) (List.mem_of_getElem? (i := 4) rfl) (List.mem_of_getElem? (i := 5) rfl) (List.mem_of_getElem? (i := 6) rfl) hl.1 (Nat.le_of_ble_eq_true rfl) (Nat.le_of_ble_eq_true rfl) dX11_forgetOldestAct_37 (fun H locs w => ?_)
  refine lv_aload_n hx hb dX11_forgetOldestAct_40 rfl (lv_at hl 0 rfl) ?_
  refine ob_get X w ho 0 (by decide) (C0 := RX11) (T := TX11) (N := 12) (ci := 9) rfl hin11 rfl 7 (by decide) (List.mem_of_getElem? (i := 8) rfl) rfl rfl dX11_forgetOldestAct_41 ?_
  refine lv_iconst (v := 1) hx hb dX11_forgetOldestAct_44 (by decide) ?_
  refine lv_aload_n hx hb dX11_forgetOldestAct_45 rfl (lv_at hl 0 rfl) ?_
  refine ob_get X w ho 0 (by decide) (C0 := RX11) (T := TX11) (N := 12) (ci := 9) rfl hin11 rfl 7 (by decide) (List.mem_of_getElem? (i := 8) rfl) rfl rfl dX11_forgetOldestAct_46 ?_
  refine lv_iconst (v := 0) hx hb dX11_forgetOldestAct_49 (by decide) ?_
  refine lv_aload_n hx hb dX11_forgetOldestAct_50 rfl (lv_at hl 0 rfl) ?_
  refine ob_get X w ho 0 (by decide) (C0 := RX11) (T := TX11) (N := 12) (ci := 9) rfl hin11 rfl 8 (by decide) (List.mem_of_getElem? (i := 1) rfl) rfl rfl dX11_forgetOldestAct_51 ?_
  refine ob_shift X w ho 10 23 (by decide) rfl rfl rfl (List.mem_of_getElem? (i := 3) rfl) (List.mem_of_getElem? (i := 4) rfl) (List.mem_of_getElem? (i := 5) rfl) (List.mem_of_getElem? (i := 6) rfl) hl.1 (Nat.le_of_ble_eq_true rfl) (Nat.le_of_ble_eq_true rfl) dX11_forgetOldestAct_54 (fun H locs w => ?_)
  exact hend H locs (L, ob_W D f oa (va_up (va_up (va_up (mo_w C 1 0 (23)) 21 (va_cpy ((mo_w C 1 0 (23)) 21) ((mo_w C 1 0 (23)) 21) 1 0 23)) 22 (va_cpy ((va_up (mo_w C 1 0 (23)) 21 (va_cpy ((mo_w C 1 0 (23)) 21) ((mo_w C 1 0 (23)) 21) 1 0 23)) 22) ((va_up (mo_w C 1 0 (23)) 21 (va_cpy ((mo_w C 1 0 (23)) 21) ((mo_w C 1 0 (23)) 21) 1 0 23)) 22) 1 0 23)) 23 (va_cpy ((va_up (va_up (mo_w C 1 0 (23)) 21 (va_cpy ((mo_w C 1 0 (23)) 21) ((mo_w C 1 0 (23)) 21) 1 0 23)) 22 (va_cpy ((va_up (mo_w C 1 0 (23)) 21 (va_cpy ((mo_w C 1 0 (23)) 21) ((mo_w C 1 0 (23)) 21) 1 0 23)) 22) ((va_up (mo_w C 1 0 (23)) 21 (va_cpy ((mo_w C 1 0 (23)) 21) ((mo_w C 1 0 (23)) 21) 1 0 23)) 22) 1 0 23)) 23) ((va_up (va_up (mo_w C 1 0 (23)) 21 (va_cpy ((mo_w C 1 0 (23)) 21) ((mo_w C 1 0 (23)) 21) 1 0 23)) 22 (va_cpy ((va_up (mo_w C 1 0 (23)) 21 (va_cpy ((mo_w C 1 0 (23)) 21) ((mo_w C 1 0 (23)) 21) 1 0 23)) 22) ((va_up (mo_w C 1 0 (23)) 21 (va_cpy ((mo_w C 1 0 (23)) 21) ((mo_w C 1 0 (23)) 21) 1 0 23)) 22) 1 0 23)) 23) 1 0 23)) mk im mk ad n g) _ ls w rfl dX11_forgetOldestAct_57
theorem hdX11_forgetOldestAct : yX11_forgetOldestAct.cls = RX11 ∧ yX11_forgetOldestAct.cls ≠ "java/lang/invoke/MethodHandle" ∧ yX11_forgetOldestAct.cls ≠ "java/lang/invoke/VarHandle" ∧ (parseMethodDescriptor yX11_forgetOldestAct.desc).map (fun d => d.parameters.length) = some 0 := by decide +kernel
theorem hdX3_put : yX3_put.cls = RX3 ∧ yX3_put.cls ≠ "java/lang/invoke/MethodHandle" ∧ yX3_put.cls ≠ "java/lang/invoke/VarHandle" ∧ (parseMethodDescriptor yX3_put.desc).map (fun d => d.parameters.length) = some 3 := by decide +kernel
set_option maxRecDepth 100000 in
set_option maxHeartbeats 4000000 in
theorem c_X11_act (l : Launch) (D : va_G) (b0 : Nat) (L : List Nat) (f : Nat → va_E) (oa : Nat → Nat) (C : Nat → Nat → Int32) (im : Nat → Option Nat) (mk : Nat) (ad : Nat → Nat) (n : Nat) (g : Nat → Int32) (hm : mk_ok L mk ad n) (hs : mk_sr g n) (ho : ob_ok L oa mk ad n) (a : Nat) (ha : a ≤ 24) (hCa : C 1 0 = nI a) (what one before now : Int32) : hg_Fv l yX11_act wsX11_act ({ frames := 2, cells := 0, slots := 0, locals := 46 }) D b0 L (ob_W D f oa C mk im mk ad n g) [.ref (oa 0), .int (what), .int (one), .int (before), .int (now)] (ob_W D f oa (cs_log C a what one before) mk im mk ad n (mk_pm g n what one now)) := by
  refine hg_in_v (cc := cX11_act) (nL := 5) (by decide) rfl (Nat.le_of_ble_eq_true rfl) (fun p e s m args below meth c R Q X _ hR hend H locs ls w hl => ?_)
  subst hR
  obtain ⟨hx, hb, hml, hown, hts⟩ := id X.1
  have hin : mk_in wsX11_act := ⟨fun w h => List.mem_cons_of_mem _ (List.mem_append_left _ (List.mem_append_left _ (List.mem_append_left _ (List.mem_append_left _ (List.mem_append_right _ h))))), fun w h => List.mem_cons_of_mem _ (List.mem_append_left _ (List.mem_append_left _ (List.mem_append_left _ (List.mem_append_right _ h)))), fun w h => List.mem_cons_of_mem _ (List.mem_append_left _ (List.mem_append_left _ (List.mem_append_right _ h))), fun w h => List.mem_cons_of_mem _ (List.mem_append_left _ (List.mem_append_right _ h)), fun w h => List.mem_cons_of_mem _ (List.mem_append_right _ h)⟩
  have hin3 : ∀ w ∈ wsX30, w ∈ wsX11_act := fun w h => List.mem_cons_of_mem _ (List.mem_append_left _ (List.mem_append_left _ (List.mem_append_left _ (List.mem_append_left _ (List.mem_append_left _ (List.mem_append_right _ h))))))
  have hin11 : ∀ w ∈ wsX110, w ∈ wsX11_act := fun w h => List.mem_cons_of_mem _ (List.mem_append_left _ (List.mem_append_left _ (List.mem_append_left _ (List.mem_append_left _ (List.mem_append_left _ (List.mem_append_left _ (List.mem_append_right _ h)))))))
  have hl : lv_has ls 5 [(0, .ref (oa 0)), (1, .int (what)), (2, .int (one)), (3, .int (before)), (4, .int (now))] := hl
  refine lv_aload_n hx hb dX11_act_0 rfl (lv_at hl 0 rfl) ?_
  refine ob_get X w ho 0 (by decide) (C0 := RX11) (T := TX11) (N := 12) (ci := 9) rfl hin11 rfl 8 (by decide) (List.mem_of_getElem? (i := 1) rfl) rfl rfl dX11_act_1 ?_
  refine lv_bipush (v := 24) hx hb dX11_act_4 (by decide) ?_
  refine lv_icmp_lt (tgt := 13) hx hb dX11_act_6 (by decide) (fun c_6 => ?_) (fun c_6 => ?_)
  · have ha24 : a < 24 := (nI_ltI (a := a) (b := 24) (by omega) (by decide)).mp (by rw [← hCa]; exact c_6)
    refine lv_aload_n hx hb dX11_act_13 rfl (lv_at hl 0 rfl) ?_
    refine ob_get X w ho 0 (by decide) (C0 := RX11) (T := TX11) (N := 12) (ci := 9) rfl hin11 rfl 5 (by decide) (List.mem_of_getElem? (i := 2) rfl) rfl rfl dX11_act_14 ?_
    refine lv_aload_n hx hb dX11_act_17 rfl (lv_at hl 0 rfl) ?_
    refine ob_get X w ho 0 (by decide) (C0 := RX11) (T := TX11) (N := 12) (ci := 9) rfl hin11 rfl 8 (by decide) (List.mem_of_getElem? (i := 1) rfl) rfl rfl dX11_act_18 ?_
    refine lv_iload_n hx hb dX11_act_21 rfl (lv_at hl 1 rfl) ?_
    refine ob_ast X w ho 8 (by decide) (N := 24) rfl a hCa (by omega) (by decide) 21 a rfl (ob_o0 _ _ (by decide) _) dX11_act_22 (fun H locs w => ?_)
    refine lv_aload_n hx hb dX11_act_23 rfl (lv_at hl 0 rfl) ?_
    refine ob_get X w ho 0 (by decide) (C0 := RX11) (T := TX11) (N := 12) (ci := 9) rfl hin11 rfl 6 (by decide) (List.mem_of_getElem? (i := 3) rfl) rfl rfl dX11_act_24 ?_
    refine lv_aload_n hx hb dX11_act_27 rfl (lv_at hl 0 rfl) ?_
    refine ob_get X w ho 0 (by decide) (C0 := RX11) (T := TX11) (N := 12) (ci := 9) rfl hin11 rfl 8 (by decide) (List.mem_of_getElem? (i := 1) rfl) rfl rfl dX11_act_28 ?_
    refine lv_iload_n hx hb dX11_act_31 rfl (lv_at hl 2 rfl) ?_
    refine ob_ast X w ho 9 (by decide) (N := 24) rfl a hCa (by omega) (by decide) 22 a rfl (ob_o0 _ _ (by decide) _) dX11_act_32 (fun H locs w => ?_)
    refine lv_aload_n hx hb dX11_act_33 rfl (lv_at hl 0 rfl) ?_
    refine ob_get X w ho 0 (by decide) (C0 := RX11) (T := TX11) (N := 12) (ci := 9) rfl hin11 rfl 7 (by decide) (List.mem_of_getElem? (i := 4) rfl) rfl rfl dX11_act_34 ?_
    refine lv_aload_n hx hb dX11_act_37 rfl (lv_at hl 0 rfl) ?_
    refine ob_get X w ho 0 (by decide) (C0 := RX11) (T := TX11) (N := 12) (ci := 9) rfl hin11 rfl 8 (by decide) (List.mem_of_getElem? (i := 1) rfl) rfl rfl dX11_act_38 ?_
    refine lv_iload_n hx hb dX11_act_41 rfl (lv_at hl 3 rfl) ?_
    refine ob_ast X w ho 10 (by decide) (N := 24) rfl a hCa (by omega) (by decide) 23 a rfl (ob_o0 _ _ (by decide) _) dX11_act_42 (fun H locs w => ?_)
    refine lv_aload_n hx hb dX11_act_43 rfl (lv_at hl 0 rfl) ?_
    refine lv_dup hx hb dX11_act_44 rfl ?_
    refine ob_get X w ho 0 (by decide) (C0 := RX11) (T := TX11) (N := 12) (ci := 9) rfl hin11 rfl 8 (by decide) (List.mem_of_getElem? (i := 1) rfl) rfl rfl dX11_act_45 ?_
    refine lv_iconst (v := 1) hx hb dX11_act_48 (by decide) ?_
    refine lv_iadd hx hb dX11_act_49 ?_
    refine ob_put X w ho 0 (by decide) (C0 := RX11) (T := TX11) (N := 12) (ci := 9) rfl hin11 tyX11_ok nmX11 rfl 8 (by decide) (List.mem_of_getElem? (i := 1) rfl) rfl rfl rfl (by show _ < 12; decide) 1 0 rfl (ob_o0 _ _ (by decide) 0) dX11_act_50 (fun H locs w => ?_)
    refine lv_aload_n hx hb dX11_act_53 rfl (lv_at hl 0 rfl) ?_
    refine ob_get X w ho 0 (by decide) (C0 := RX11) (T := TX11) (N := 12) (ci := 9) rfl hin11 rfl 9 (by decide) (List.mem_of_getElem? (i := 5) rfl) rfl rfl dX11_act_54 ?_
    refine lv_iload_n hx hb dX11_act_57 rfl (lv_at hl 1 rfl) ?_
    refine lv_iload_n hx hb dX11_act_58 rfl (lv_at hl 2 rfl) ?_
    refine lv_iload hx hb dX11_act_59 (lv_at hl 4 rfl) ?_
    refine hg_vvF (As := [.int (what), .int (one), .int (now)]) (rest := []) X w (c_X3_put l D b0 L (ob_F D f oa (mo_w (mo_w (mo_w (mo_w C 21 a (what)) 22 a (one)) 23 a (before)) 1 0 (((mo_w (mo_w (mo_w C 21 a (what)) 22 a (one)) 23 a (before)) 1 0 + 1))) mk im) mk ad n g hm hs what one now) (cwV 3 hts gX11_act_X3_put rfl rfl rfl hdX3_put ⟨Nat.le_of_ble_eq_true rfl, Nat.le_of_ble_eq_true rfl⟩) hm.1 (mk_at0 D _ mk ad n _) rfl rfl rfl hl.1 rfl (Nat.le_of_ble_eq_true rfl) dX11_act_61 ⟨Nat.zero_le _, Nat.zero_le _⟩ (fun H locs w => ?_)
    exact hend H locs (L, ob_W D f oa (mo_w (mo_w (mo_w (mo_w C 21 a (what)) 22 a (one)) 23 a (before)) 1 0 (((mo_w (mo_w (mo_w C 21 a (what)) 22 a (one)) 23 a (before)) 1 0 + 1))) mk im mk ad n (mk_pm g n what one now)) _ ls w (ob_eq (by rw [cs_log, if_pos ha24, cs_log1, ← nI_1 a, ← hCa]; first | done | rfl) rfl) dX11_act_64
  · have ha24 : ¬ a < 24 := fun q => c_6 (by rw [hCa]; exact (nI_ltI (a := a) (b := 24) (by omega) (by decide)).mpr q)
    refine lv_aload_n hx hb dX11_act_9 rfl (lv_at hl 0 rfl) ?_
    refine hg_vvF (As := []) (rest := []) X w (c_X11_forgetOldestAct l D b0 L f oa C im mk ad n g hm hs ho ) (cwV 0 hts gX11_act_X11_forgetOldestAct rfl rfl rfl hdX11_forgetOldestAct ⟨Nat.le_of_ble_eq_true rfl, Nat.le_of_ble_eq_true rfl⟩) (ho.1 0 (by decide)).1 (ow_at ho (k := 0) (by decide)) rfl rfl rfl hl.1 rfl (Nat.le_of_ble_eq_true rfl) dX11_act_10 ⟨Nat.zero_le _, Nat.zero_le _⟩ (fun H locs w => ?_)
    refine lv_aload_n hx hb dX11_act_13 rfl (lv_at hl 0 rfl) ?_
    refine ob_get X w ho 0 (by decide) (C0 := RX11) (T := TX11) (N := 12) (ci := 9) rfl hin11 rfl 5 (by decide) (List.mem_of_getElem? (i := 2) rfl) rfl rfl dX11_act_14 ?_
    refine lv_aload_n hx hb dX11_act_17 rfl (lv_at hl 0 rfl) ?_
    refine ob_get X w ho 0 (by decide) (C0 := RX11) (T := TX11) (N := 12) (ci := 9) rfl hin11 rfl 8 (by decide) (List.mem_of_getElem? (i := 1) rfl) rfl rfl dX11_act_18 ?_
    refine lv_iload_n hx hb dX11_act_21 rfl (lv_at hl 1 rfl) ?_
    refine ob_ast X w ho 8 (by decide) (N := 24) rfl 23 rfl (by omega) (by decide) 21 23 rfl (ob_o0 _ _ (by decide) _) dX11_act_22 (fun H locs w => ?_)
    refine lv_aload_n hx hb dX11_act_23 rfl (lv_at hl 0 rfl) ?_
    refine ob_get X w ho 0 (by decide) (C0 := RX11) (T := TX11) (N := 12) (ci := 9) rfl hin11 rfl 6 (by decide) (List.mem_of_getElem? (i := 3) rfl) rfl rfl dX11_act_24 ?_
    refine lv_aload_n hx hb dX11_act_27 rfl (lv_at hl 0 rfl) ?_
    refine ob_get X w ho 0 (by decide) (C0 := RX11) (T := TX11) (N := 12) (ci := 9) rfl hin11 rfl 8 (by decide) (List.mem_of_getElem? (i := 1) rfl) rfl rfl dX11_act_28 ?_
    refine lv_iload_n hx hb dX11_act_31 rfl (lv_at hl 2 rfl) ?_
    refine ob_ast X w ho 9 (by decide) (N := 24) rfl 23 rfl (by omega) (by decide) 22 23 rfl (ob_o0 _ _ (by decide) _) dX11_act_32 (fun H locs w => ?_)
    refine lv_aload_n hx hb dX11_act_33 rfl (lv_at hl 0 rfl) ?_
    refine ob_get X w ho 0 (by decide) (C0 := RX11) (T := TX11) (N := 12) (ci := 9) rfl hin11 rfl 7 (by decide) (List.mem_of_getElem? (i := 4) rfl) rfl rfl dX11_act_34 ?_
    refine lv_aload_n hx hb dX11_act_37 rfl (lv_at hl 0 rfl) ?_
    refine ob_get X w ho 0 (by decide) (C0 := RX11) (T := TX11) (N := 12) (ci := 9) rfl hin11 rfl 8 (by decide) (List.mem_of_getElem? (i := 1) rfl) rfl rfl dX11_act_38 ?_
    refine lv_iload_n hx hb dX11_act_41 rfl (lv_at hl 3 rfl) ?_
    refine ob_ast X w ho 10 (by decide) (N := 24) rfl 23 rfl (by omega) (by decide) 23 23 rfl (ob_o0 _ _ (by decide) _) dX11_act_42 (fun H locs w => ?_)
    refine lv_aload_n hx hb dX11_act_43 rfl (lv_at hl 0 rfl) ?_
    refine lv_dup hx hb dX11_act_44 rfl ?_
    refine ob_get X w ho 0 (by decide) (C0 := RX11) (T := TX11) (N := 12) (ci := 9) rfl hin11 rfl 8 (by decide) (List.mem_of_getElem? (i := 1) rfl) rfl rfl dX11_act_45 ?_
    refine lv_iconst (v := 1) hx hb dX11_act_48 (by decide) ?_
    refine lv_iadd hx hb dX11_act_49 ?_
    refine ob_put X w ho 0 (by decide) (C0 := RX11) (T := TX11) (N := 12) (ci := 9) rfl hin11 tyX11_ok nmX11 rfl 8 (by decide) (List.mem_of_getElem? (i := 1) rfl) rfl rfl rfl (by show _ < 12; decide) 1 0 rfl (ob_o0 _ _ (by decide) 0) dX11_act_50 (fun H locs w => ?_)
    refine lv_aload_n hx hb dX11_act_53 rfl (lv_at hl 0 rfl) ?_
    refine ob_get X w ho 0 (by decide) (C0 := RX11) (T := TX11) (N := 12) (ci := 9) rfl hin11 rfl 9 (by decide) (List.mem_of_getElem? (i := 5) rfl) rfl rfl dX11_act_54 ?_
    refine lv_iload_n hx hb dX11_act_57 rfl (lv_at hl 1 rfl) ?_
    refine lv_iload_n hx hb dX11_act_58 rfl (lv_at hl 2 rfl) ?_
    refine lv_iload hx hb dX11_act_59 (lv_at hl 4 rfl) ?_
    refine hg_vvF (As := [.int (what), .int (one), .int (now)]) (rest := []) X w (c_X3_put l D b0 L (ob_F D f oa (mo_w (mo_w (mo_w (mo_w (cs_forget C) 21 23 (what)) 22 23 (one)) 23 23 (before)) 1 0 (((mo_w (mo_w (mo_w (cs_forget C) 21 23 (what)) 22 23 (one)) 23 23 (before)) 1 0 + 1))) mk im) mk ad n g hm hs what one now) (cwV 3 hts gX11_act_X3_put rfl rfl rfl hdX3_put ⟨Nat.le_of_ble_eq_true rfl, Nat.le_of_ble_eq_true rfl⟩) hm.1 (mk_at0 D _ mk ad n _) rfl rfl rfl hl.1 rfl (Nat.le_of_ble_eq_true rfl) dX11_act_61 ⟨Nat.zero_le _, Nat.zero_le _⟩ (fun H locs w => ?_)
    exact hend H locs (L, ob_W D f oa (mo_w (mo_w (mo_w (mo_w (cs_forget C) 21 23 (what)) 22 23 (one)) 23 23 (before)) 1 0 (((mo_w (mo_w (mo_w (cs_forget C) 21 23 (what)) 22 23 (one)) 23 23 (before)) 1 0 + 1))) mk im mk ad n (mk_pm g n what one now)) _ ls w (ob_eq (by rw [cs_log, if_neg ha24]; rfl) rfl) dX11_act_64
set_option maxRecDepth 100000 in
set_option maxHeartbeats 4000000 in
theorem c_X11_undo (l : Launch) (D : va_G) (b0 : Nat) (L : List Nat) (f : Nat → va_E) (oa : Nat → Nat) (C : Nat → Nat → Int32) (im : Nat → Option Nat) (mk : Nat) (ad : Nat → Nat) (n : Nat) (g : Nat → Int32) (hm : mk_ok L mk ad n) (hs : mk_sr g n) (ho : ob_ok L oa mk ad n) (a : Nat) (ha : a ≤ 24) (hCa : C 1 0 = nI a) : hg_Fi l yX11_undo wsX11_undo ({ frames := 2, cells := 0, slots := 0, locals := 46 }) D b0 L (ob_W D f oa C mk im mk ad n g) [.ref (oa 0)] ((cs_undo C a).1) (ob_W D f oa ((cs_undo C a).2) mk im mk ad n (cs_undoG C g n a)) := by
  refine hg_in_i (cc := cX11_undo) (nL := 1) (by decide) rfl (Nat.le_of_ble_eq_true rfl) (fun p e s m args below meth c R Q X hR hend H locs ls w hl => ?_)
  subst hR
  obtain ⟨hx, hb, hml, hown, hts⟩ := id X.1
  have hin : mk_in wsX11_undo := ⟨fun w h => List.mem_cons_of_mem _ (List.mem_append_left _ (List.mem_append_left _ (List.mem_append_left _ (List.mem_append_left _ (List.mem_append_right _ h))))), fun w h => List.mem_cons_of_mem _ (List.mem_append_left _ (List.mem_append_left _ (List.mem_append_left _ (List.mem_append_right _ h)))), fun w h => List.mem_cons_of_mem _ (List.mem_append_left _ (List.mem_append_left _ (List.mem_append_right _ h))), fun w h => List.mem_cons_of_mem _ (List.mem_append_left _ (List.mem_append_right _ h)), fun w h => List.mem_cons_of_mem _ (List.mem_append_right _ h)⟩
  have hin3 : ∀ w ∈ wsX30, w ∈ wsX11_undo := fun w h => List.mem_cons_of_mem _ (List.mem_append_left _ (List.mem_append_left _ (List.mem_append_left _ (List.mem_append_left _ (List.mem_append_left _ (List.mem_append_right _ h))))))
  have hin11 : ∀ w ∈ wsX110, w ∈ wsX11_undo := fun w h => List.mem_cons_of_mem _ (List.mem_append_left _ (List.mem_append_left _ (List.mem_append_left _ (List.mem_append_left _ (List.mem_append_left _ (List.mem_append_left _ (List.mem_append_right _ h)))))))
  have hl : lv_has ls 1 [(0, .ref (oa 0))] := hl
  refine lv_aload_n hx hb dX11_undo_0 rfl (lv_at hl 0 rfl) ?_
  refine ob_get X w ho 0 (by decide) (C0 := RX11) (T := TX11) (N := 12) (ci := 9) rfl hin11 rfl 8 (by decide) (List.mem_of_getElem? (i := 1) rfl) rfl rfl dX11_undo_1 ?_
  refine lv_iconst (v := 1) hx hb dX11_undo_4 (by decide) ?_
  refine lv_icmp_lt (tgt := 17) hx hb dX11_undo_5 (by decide) (fun c_5 => ?_) (fun c_5 => ?_)
  · have ha0 : a = 0 := by
      rcases Nat.eq_zero_or_pos a with q | q
      · exact q
      · exact absurd (nI_le (a := 1) (b := a) q (by omega)) (by rw [hCa] at c_5; exact Int32.not_le.mpr c_5)
    subst ha0
    refine lv_ldc (v := (-1000002)) hx hb hown (hts _ (List.mem_of_getElem? (i := 2) rfl)) dX11_undo_17 ?_
    exact hend H locs ((-1000002)) (L, ob_W D f oa C mk im mk ad n g) _ ls w ⟨rfl, (ob_eq rfl rfl)⟩ rfl dX11_undo_19
  · refine lv_aload_n hx hb dX11_undo_8 rfl (lv_at hl 0 rfl) ?_
    refine ob_get X w ho 0 (by decide) (C0 := RX11) (T := TX11) (N := 12) (ci := 9) rfl hin11 rfl 8 (by decide) (List.mem_of_getElem? (i := 1) rfl) rfl rfl dX11_undo_9 ?_
    refine lv_bipush (v := 24) hx hb dX11_undo_12 (by decide) ?_
    refine lv_icmp_le (tgt := 20) hx hb dX11_undo_14 (by decide) (fun c_14 => ?_) (fun c_14 => ?_)
    · obtain ⟨b, rfl⟩ : ∃ b, a = b + 1 := ⟨a - 1, by
        rcases Nat.eq_zero_or_pos a with q | q
        · exact absurd (by rw [hCa, q]; decide) c_5
        · omega⟩
      refine lv_aload_n hx hb dX11_undo_20 rfl (lv_at hl 0 rfl) ?_
      refine lv_dup hx hb dX11_undo_21 rfl ?_
      refine ob_get X w ho 0 (by decide) (C0 := RX11) (T := TX11) (N := 12) (ci := 9) rfl hin11 rfl 8 (by decide) (List.mem_of_getElem? (i := 1) rfl) rfl rfl dX11_undo_22 ?_
      refine lv_iconst (v := 1) hx hb dX11_undo_25 (by decide) ?_
      refine lv_isub hx hb dX11_undo_26 ?_
      refine ob_put X w ho 0 (by decide) (C0 := RX11) (T := TX11) (N := 12) (ci := 9) rfl hin11 tyX11_ok nmX11 rfl 8 (by decide) (List.mem_of_getElem? (i := 1) rfl) rfl rfl rfl (by show _ < 12; decide) 1 0 rfl (ob_o0 _ _ (by decide) 0) dX11_undo_27 (fun H locs w => ?_)
      refine lv_aload_n hx hb dX11_undo_30 rfl (lv_at hl 0 rfl) ?_
      refine ob_get X w ho 0 (by decide) (C0 := RX11) (T := TX11) (N := 12) (ci := 9) rfl hin11 rfl 9 (by decide) (List.mem_of_getElem? (i := 3) rfl) rfl rfl dX11_undo_31 ?_
      refine lv_aload_n hx hb dX11_undo_34 rfl (lv_at hl 0 rfl) ?_
      refine ob_get X w ho 0 (by decide) (C0 := RX11) (T := TX11) (N := 12) (ci := 9) rfl hin11 rfl 5 (by decide) (List.mem_of_getElem? (i := 4) rfl) rfl rfl dX11_undo_35 ?_
      refine lv_aload_n hx hb dX11_undo_38 rfl (lv_at hl 0 rfl) ?_
      refine ob_get X w ho 0 (by decide) (C0 := RX11) (T := TX11) (N := 12) (ci := 9) rfl hin11 rfl 8 (by decide) (List.mem_of_getElem? (i := 1) rfl) rfl rfl dX11_undo_39 ?_
      refine ob_ald X w ho 8 (by decide) (N := 24) rfl b (by show C 1 0 - 1 = nI b; rw [hCa]; exact nI_pred b) (by omega) (by decide) dX11_undo_42 ?_
      refine lv_aload_n hx hb dX11_undo_43 rfl (lv_at hl 0 rfl) ?_
      refine ob_get X w ho 0 (by decide) (C0 := RX11) (T := TX11) (N := 12) (ci := 9) rfl hin11 rfl 6 (by decide) (List.mem_of_getElem? (i := 5) rfl) rfl rfl dX11_undo_44 ?_
      refine lv_aload_n hx hb dX11_undo_47 rfl (lv_at hl 0 rfl) ?_
      refine ob_get X w ho 0 (by decide) (C0 := RX11) (T := TX11) (N := 12) (ci := 9) rfl hin11 rfl 8 (by decide) (List.mem_of_getElem? (i := 1) rfl) rfl rfl dX11_undo_48 ?_
      refine ob_ald X w ho 9 (by decide) (N := 24) rfl b (by show C 1 0 - 1 = nI b; rw [hCa]; exact nI_pred b) (by omega) (by decide) dX11_undo_51 ?_
      refine lv_aload_n hx hb dX11_undo_52 rfl (lv_at hl 0 rfl) ?_
      refine ob_get X w ho 0 (by decide) (C0 := RX11) (T := TX11) (N := 12) (ci := 9) rfl hin11 rfl 7 (by decide) (List.mem_of_getElem? (i := 6) rfl) rfl rfl dX11_undo_53 ?_
      refine lv_aload_n hx hb dX11_undo_56 rfl (lv_at hl 0 rfl) ?_
      refine ob_get X w ho 0 (by decide) (C0 := RX11) (T := TX11) (N := 12) (ci := 9) rfl hin11 rfl 8 (by decide) (List.mem_of_getElem? (i := 1) rfl) rfl rfl dX11_undo_57 ?_
      refine ob_ald X w ho 10 (by decide) (N := 24) rfl b (by show C 1 0 - 1 = nI b; rw [hCa]; exact nI_pred b) (by omega) (by decide) dX11_undo_60 ?_
      refine hg_vvF (As := [.int ((mo_w C 1 0 ((C 1 0 - 1))) 21 b), .int ((mo_w C 1 0 ((C 1 0 - 1))) 22 b), .int ((mo_w C 1 0 ((C 1 0 - 1))) 23 b)]) (rest := []) X w (c_X3_put l D b0 L (ob_F D f oa (mo_w C 1 0 ((C 1 0 - 1))) mk im) mk ad n g hm hs ((mo_w C 1 0 ((C 1 0 - 1))) 21 b) ((mo_w C 1 0 ((C 1 0 - 1))) 22 b) ((mo_w C 1 0 ((C 1 0 - 1))) 23 b)) (cwV 3 hts gX11_undo_X3_put rfl rfl rfl hdX3_put ⟨Nat.le_of_ble_eq_true rfl, Nat.le_of_ble_eq_true rfl⟩) hm.1 (mk_at0 D _ mk ad n _) rfl rfl rfl hl.1 rfl (Nat.le_of_ble_eq_true rfl) dX11_undo_61 ⟨Nat.zero_le _, Nat.zero_le _⟩ (fun H locs w => ?_)
      refine lv_aload_n hx hb dX11_undo_64 rfl (lv_at hl 0 rfl) ?_
      refine ob_get X w ho 0 (by decide) (C0 := RX11) (T := TX11) (N := 12) (ci := 9) rfl hin11 rfl 8 (by decide) (List.mem_of_getElem? (i := 1) rfl) rfl rfl dX11_undo_65 ?_
      exact hend H locs ((mo_w C 1 0 ((C 1 0 - 1))) 1 0) (L, ob_W D f oa (mo_w C 1 0 ((C 1 0 - 1))) mk im mk ad n (mk_pm g n ((mo_w C 1 0 ((C 1 0 - 1))) 21 b) ((mo_w C 1 0 ((C 1 0 - 1))) 22 b) ((mo_w C 1 0 ((C 1 0 - 1))) 23 b))) _ ls w ⟨(by rw [cs_undo, if_neg (by omega)]; show C 1 0 - 1 = nI b; rw [hCa]; exact nI_pred b), (ob_eq (by rw [cs_undo, if_neg (by omega)]; show mo_w C 1 0 (C 1 0 - 1) = mo_w C 1 0 (nI b); rw [hCa, nI_pred b]) (by rw [cs_undoG, if_neg (by omega)]; rfl))⟩ rfl dX11_undo_68
    · exact absurd (by rw [hCa]; exact nI_le (a := a) (b := 24) (by omega) (by decide)) c_14
theorem hdX11_act : yX11_act.cls = RX11 ∧ yX11_act.cls ≠ "java/lang/invoke/MethodHandle" ∧ yX11_act.cls ≠ "java/lang/invoke/VarHandle" ∧ (parseMethodDescriptor yX11_act.desc).map (fun d => d.parameters.length) = some 4 := by decide +kernel
theorem hdX11_stallAt : yX11_stallAt.cls = RX11 ∧ yX11_stallAt.cls ≠ "java/lang/invoke/MethodHandle" ∧ yX11_stallAt.cls ≠ "java/lang/invoke/VarHandle" ∧ (parseMethodDescriptor yX11_stallAt.desc).map (fun d => d.parameters.length) = some 1 := by decide +kernel
set_option maxRecDepth 100000 in
set_option maxHeartbeats 4000000 in
theorem c_X11_buyers (l : Launch) (D : va_G) (b0 : Nat) (L : List Nat) (f : Nat → va_E) (oa : Nat → Nat) (C : Nat → Nat → Int32) (im : Nat → Option Nat) (mk : Nat) (ad : Nat → Nat) (n : Nat) (g : Nat → Int32) (hm : mk_ok L mk ad n) (hs : mk_sr g n) (ho : ob_ok L oa mk ad n) (a : Nat) (ha : a ≤ 24) (hCa : C 1 0 = nI a) (s0 k : Int32) : hg_Fi l yX11_buyers wsX11_buyers ({ frames := 3, cells := 0, slots := 0, locals := 70 }) D b0 L (ob_W D f oa C mk im mk ad n g) [.ref (oa 0), .int (s0), .int (k)] ((cs_buyers C g a s0 k).1) (ob_W D f oa ((cs_buyers C g a s0 k).2.1) mk im mk ad n ((cs_buyers C g a s0 k).2.2)) := by
  refine hg_in_i (cc := cX11_buyers) (nL := 5) (by decide) rfl (Nat.le_of_ble_eq_true rfl) (fun p e s m args below meth c R Q X hR hend H locs ls w hl => ?_)
  subst hR
  obtain ⟨hx, hb, hml, hown, hts⟩ := id X.1
  have hin : mk_in wsX11_buyers := ⟨fun w h => List.mem_cons_of_mem _ (List.mem_append_left _ (List.mem_append_left _ (List.mem_append_left _ (List.mem_append_left _ (List.mem_append_left _ (List.mem_append_left _ (List.mem_append_right _ h))))))), fun w h => List.mem_cons_of_mem _ (List.mem_append_left _ (List.mem_append_left _ (List.mem_append_left _ (List.mem_append_left _ (List.mem_append_left _ (List.mem_append_right _ h)))))), fun w h => List.mem_cons_of_mem _ (List.mem_append_left _ (List.mem_append_left _ (List.mem_append_left _ (List.mem_append_left _ (List.mem_append_right _ h))))), fun w h => List.mem_cons_of_mem _ (List.mem_append_left _ (List.mem_append_left _ (List.mem_append_left _ (List.mem_append_right _ h)))), fun w h => List.mem_cons_of_mem _ (List.mem_append_left _ (List.mem_append_left _ (List.mem_append_right _ h)))⟩
  have hin3 : ∀ w ∈ wsX30, w ∈ wsX11_buyers := fun w h => List.mem_cons_of_mem _ (List.mem_append_right _ h)
  have hin11 : ∀ w ∈ wsX110, w ∈ wsX11_buyers := fun w h => List.mem_cons_of_mem _ (List.mem_append_left _ (List.mem_append_right _ h))
  have hl : lv_has ls 5 [(0, .ref (oa 0)), (1, .int (s0)), (2, .int (k))] := hl
  have hn6 := hs.2.1
  refine lv_aload_n hx hb dX11_buyers_0 rfl (lv_at hl 0 rfl) ?_
  refine lv_iload_n hx hb dX11_buyers_1 rfl (lv_at hl 1 rfl) ?_
  refine hg_vqF (r := cs_sa ad g s0) (As := [.int (s0)]) (rest := []) X w (c_X11_stallAt l D b0 L f oa C im mk ad n g hm hs ho s0) (cwV 1 hts gX11_buyers_X11_stallAt rfl rfl rfl hdX11_stallAt ⟨Nat.le_of_ble_eq_true rfl, Nat.le_of_ble_eq_true rfl⟩) (ho.1 0 (by decide)).1 (ow_at ho (k := 0) (by decide)) rfl rfl rfl hl.1 rfl (Nat.le_of_ble_eq_true rfl) dX11_buyers_2 ⟨Nat.zero_le _, Nat.zero_le _⟩ (fun H locs w => ?_)
  refine ob_qs hs (fun hz_s0 => ?_) (fun j_s0 hj_s0 e_s0 => ?_)
  · refine lv_astore_nN (lv' := [(3, .null), (0, .ref (oa 0)), (1, .int (s0)), (2, .int (k))]) hx hb dX11_buyers_5 rfl hl (by decide) rfl (fun ls hl => ?_)
    refine lv_aload_nN hx hb dX11_buyers_6 rfl (lv_at hl 0 rfl) ?_
    refine lv_ifnullN (tgt := 20) hx hb dX11_buyers_7 (by decide) ?_
    refine lv_ldc (v := (-1000001)) hx hb hown (hts _ (List.mem_of_getElem? (i := 1) rfl)) dX11_buyers_20 ?_
    exact hend H locs ((-1000001)) (L, ob_W D f oa C mk im mk ad n g) _ ls w ⟨(by (try simp only [lg_cmp_le, lg_cmp_ge, lg_cmp_lt, lg_cmp_gt, hs_if10, ← Int32.not_lt, ← Int64.not_lt, Classical.not_not] at hz_s0); first | (simp [cs_buyers, hs_inX, hz_s0]; done) | (simp [cs_buyers, hs_inX, hz_s0]; done) | (exfalso; clear hend ; simp_all; done)), (ob_eq (by (try simp only [lg_cmp_le, lg_cmp_ge, lg_cmp_lt, lg_cmp_gt, hs_if10, ← Int32.not_lt, ← Int64.not_lt, Classical.not_not] at hz_s0); first | (simp [cs_buyers, hs_inX, hz_s0]; done) | (simp [cs_buyers, hs_inX, hz_s0]; done) | (exfalso; clear hend ; simp_all; done)) (by (try simp only [lg_cmp_le, lg_cmp_ge, lg_cmp_lt, lg_cmp_gt, hs_if10, ← Int32.not_lt, ← Int64.not_lt, Classical.not_not] at hz_s0); first | (simp [cs_buyers, hs_inX, hz_s0]; done) | (simp [cs_buyers, hs_inX, hz_s0]; done) | (exfalso; clear hend ; simp_all; done)))⟩ rfl dX11_buyers_22
  · subst e_s0
    have h1j_s0 := cs_st_1 hs hj_s0
    have hcj_s0 : (nI j_s0).toNatClampNeg = j_s0 := nI_clamp (by omega)
    refine lv_astore_n (lv' := [(3, .ref (ad (2 + j_s0))), (0, .ref (oa 0)), (1, .int (nI j_s0)), (2, .int (k))]) hx hb dX11_buyers_5 rfl hl (by decide) rfl (fun ls hl => ?_)
    refine lv_aload_n hx hb dX11_buyers_6 rfl (lv_at hl 0 rfl) ?_
    refine lv_ifnull hx hb dX11_buyers_7 ?_
    refine lv_iload_n hx hb dX11_buyers_10 rfl (lv_at hl 3 rfl) ?_
    refine lv_if_lt (tgt := 20) hx hb dX11_buyers_11 (by decide) (fun c_11 => ?_) (fun c_11 => ?_)
    · refine lv_ldc (v := (-1000001)) hx hb hown (hts _ (List.mem_of_getElem? (i := 1) rfl)) dX11_buyers_20 ?_
      exact hend H locs ((-1000001)) (L, ob_W D f oa C mk im mk ad n g) _ ls w ⟨(by (try simp only [lg_cmp_le, lg_cmp_ge, lg_cmp_lt, lg_cmp_gt, hs_if10, ← Int32.not_lt, ← Int64.not_lt, Classical.not_not] at c_11); first | (simp [cs_buyers, hs_inX, c_11, h1j_s0, hcj_s0]; done) | (simp [cs_buyers, hs_inX, c_11, h1j_s0, hcj_s0]; done) | (exfalso; clear hend ; simp_all; done)), (ob_eq (by (try simp only [lg_cmp_le, lg_cmp_ge, lg_cmp_lt, lg_cmp_gt, hs_if10, ← Int32.not_lt, ← Int64.not_lt, Classical.not_not] at c_11); first | (simp [cs_buyers, hs_inX, c_11, h1j_s0, hcj_s0]; done) | (simp [cs_buyers, hs_inX, c_11, h1j_s0, hcj_s0]; done) | (exfalso; clear hend ; simp_all; done)) (by (try simp only [lg_cmp_le, lg_cmp_ge, lg_cmp_lt, lg_cmp_gt, hs_if10, ← Int32.not_lt, ← Int64.not_lt, Classical.not_not] at c_11); first | (simp [cs_buyers, hs_inX, c_11, h1j_s0, hcj_s0]; done) | (simp [cs_buyers, hs_inX, c_11, h1j_s0, hcj_s0]; done) | (exfalso; clear hend ; simp_all; done)))⟩ rfl dX11_buyers_22
    · refine lv_iload_n hx hb dX11_buyers_14 rfl (lv_at hl 3 rfl) ?_
      refine lv_bipush (v := 20) hx hb dX11_buyers_15 (by decide) ?_
      refine lv_icmp_le (tgt := 23) hx hb dX11_buyers_17 (by decide) (fun c_17 => ?_) (fun c_17 => ?_)
      · refine lv_aload_n hx hb dX11_buyers_23 rfl (lv_at hl 0 rfl) ?_
        refine mk_get X w hm hs hin hj_s0 4 (by decide) (List.mem_of_getElem? (i := 2) rfl) (Or.inl rfl) rfl dX11_buyers_24 ?_
        refine lv_istore (lv' := [(4, .int (g (32 + j_s0))), (3, .ref (ad (2 + j_s0))), (0, .ref (oa 0)), (1, .int (nI j_s0)), (2, .int (k))]) hx hb dX11_buyers_27 hl (by decide) rfl (fun ls hl => ?_)
        refine lv_aload_n hx hb dX11_buyers_29 rfl (lv_at hl 2 rfl) ?_
        refine lv_iconst (v := 0) hx hb dX11_buyers_30 (by decide) ?_
        refine lv_iload_n hx hb dX11_buyers_31 rfl (lv_at hl 3 rfl) ?_
        refine lv_iload hx hb dX11_buyers_32 (lv_at hl 0 rfl) ?_
        refine lv_iload_n hx hb dX11_buyers_34 rfl (lv_at hl 4 rfl) ?_
        refine hg_vvF (As := [.int (0), .int (nI j_s0), .int (g (32 + j_s0)), .int (k)]) (rest := []) X w (c_X11_act l D b0 L f oa C im mk ad n g hm hs ho a ha hCa 0 (nI j_s0) (g (32 + j_s0)) k) (cwV 4 hts gX11_buyers_X11_act rfl rfl rfl hdX11_act ⟨Nat.le_of_ble_eq_true rfl, Nat.le_of_ble_eq_true rfl⟩) (ho.1 0 (by decide)).1 (ow_at ho (k := 0) (by decide)) rfl rfl rfl hl.1 rfl (Nat.le_of_ble_eq_true rfl) dX11_buyers_35 ⟨Nat.zero_le _, Nat.zero_le _⟩ (fun H locs w => ?_)
        rw [mk_pm_w0 hn6 hj_s0] at w
        refine lv_iload hx hb dX11_buyers_38 (lv_at hl 0 rfl) ?_
        exact hend H locs (g (32 + j_s0)) (L, ob_W D f oa (cs_log C a 0 (nI j_s0) (g (32 + j_s0))) mk im mk ad n (va_up g (32 + j_s0) k)) _ ls w ⟨(by (try simp only [lg_cmp_le, lg_cmp_ge, lg_cmp_lt, lg_cmp_gt, hs_if10, ← Int32.not_lt, ← Int64.not_lt, Classical.not_not] at c_11 c_17); first | (simp [cs_buyers, hs_inX, c_11, c_17, h1j_s0, hcj_s0]; done) | (simp [cs_buyers, hs_inX, c_11, c_17, h1j_s0, hcj_s0]; done) | (exfalso; clear hend ; simp_all; done)), (ob_eq (by (try simp only [lg_cmp_le, lg_cmp_ge, lg_cmp_lt, lg_cmp_gt, hs_if10, ← Int32.not_lt, ← Int64.not_lt, Classical.not_not] at c_11 c_17); first | (simp [cs_buyers, hs_inX, c_11, c_17, h1j_s0, hcj_s0]; done) | (simp [cs_buyers, hs_inX, c_11, c_17, h1j_s0, hcj_s0]; done) | (exfalso; clear hend ; simp_all; done)) (by (try simp only [lg_cmp_le, lg_cmp_ge, lg_cmp_lt, lg_cmp_gt, hs_if10, ← Int32.not_lt, ← Int64.not_lt, Classical.not_not] at c_11 c_17); first | (simp [cs_buyers, hs_inX, c_11, c_17, h1j_s0, hcj_s0]; done) | (simp [cs_buyers, hs_inX, c_11, c_17, h1j_s0, hcj_s0]; done) | (exfalso; clear hend ; simp_all; done)))⟩ rfl dX11_buyers_40
      · refine lv_ldc (v := (-1000001)) hx hb hown (hts _ (List.mem_of_getElem? (i := 1) rfl)) dX11_buyers_20 ?_
        exact hend H locs ((-1000001)) (L, ob_W D f oa C mk im mk ad n g) _ ls w ⟨(by (try simp only [lg_cmp_le, lg_cmp_ge, lg_cmp_lt, lg_cmp_gt, hs_if10, ← Int32.not_lt, ← Int64.not_lt, Classical.not_not] at c_11 c_17); first | (simp [cs_buyers, hs_inX, c_11, c_17, h1j_s0, hcj_s0]; done) | (simp [cs_buyers, hs_inX, c_11, c_17, h1j_s0, hcj_s0]; done) | (exfalso; clear hend ; simp_all; done)), (ob_eq (by (try simp only [lg_cmp_le, lg_cmp_ge, lg_cmp_lt, lg_cmp_gt, hs_if10, ← Int32.not_lt, ← Int64.not_lt, Classical.not_not] at c_11 c_17); first | (simp [cs_buyers, hs_inX, c_11, c_17, h1j_s0, hcj_s0]; done) | (simp [cs_buyers, hs_inX, c_11, c_17, h1j_s0, hcj_s0]; done) | (exfalso; clear hend ; simp_all; done)) (by (try simp only [lg_cmp_le, lg_cmp_ge, lg_cmp_lt, lg_cmp_gt, hs_if10, ← Int32.not_lt, ← Int64.not_lt, Classical.not_not] at c_11 c_17); first | (simp [cs_buyers, hs_inX, c_11, c_17, h1j_s0, hcj_s0]; done) | (simp [cs_buyers, hs_inX, c_11, c_17, h1j_s0, hcj_s0]; done) | (exfalso; clear hend ; simp_all; done)))⟩ rfl dX11_buyers_22
set_option maxRecDepth 100000 in
set_option maxHeartbeats 4000000 in
theorem c_X11_girl (l : Launch) (D : va_G) (b0 : Nat) (L : List Nat) (f : Nat → va_E) (oa : Nat → Nat) (C : Nat → Nat → Int32) (im : Nat → Option Nat) (mk : Nat) (ad : Nat → Nat) (n : Nat) (g : Nat → Int32) (hm : mk_ok L mk ad n) (hs : mk_sr g n) (ho : ob_ok L oa mk ad n) (a : Nat) (ha : a ≤ 24) (hCa : C 1 0 = nI a) (s0 k : Int32) : hg_Fi l yX11_girl wsX11_girl ({ frames := 3, cells := 0, slots := 0, locals := 70 }) D b0 L (ob_W D f oa C mk im mk ad n g) [.ref (oa 0), .int (s0), .int (k)] ((cs_girl C g a s0 k).1) (ob_W D f oa ((cs_girl C g a s0 k).2.1) mk im mk ad n ((cs_girl C g a s0 k).2.2)) := by
  refine hg_in_i (cc := cX11_girl) (nL := 4) (by decide) rfl (Nat.le_of_ble_eq_true rfl) (fun p e s m args below meth c R Q X hR hend H locs ls w hl => ?_)
  subst hR
  obtain ⟨hx, hb, hml, hown, hts⟩ := id X.1
  have hin : mk_in wsX11_girl := ⟨fun w h => List.mem_cons_of_mem _ (List.mem_append_left _ (List.mem_append_left _ (List.mem_append_left _ (List.mem_append_left _ (List.mem_append_left _ (List.mem_append_left _ (List.mem_append_right _ h))))))), fun w h => List.mem_cons_of_mem _ (List.mem_append_left _ (List.mem_append_left _ (List.mem_append_left _ (List.mem_append_left _ (List.mem_append_left _ (List.mem_append_right _ h)))))), fun w h => List.mem_cons_of_mem _ (List.mem_append_left _ (List.mem_append_left _ (List.mem_append_left _ (List.mem_append_left _ (List.mem_append_right _ h))))), fun w h => List.mem_cons_of_mem _ (List.mem_append_left _ (List.mem_append_left _ (List.mem_append_left _ (List.mem_append_right _ h)))), fun w h => List.mem_cons_of_mem _ (List.mem_append_left _ (List.mem_append_left _ (List.mem_append_right _ h)))⟩
  have hin3 : ∀ w ∈ wsX30, w ∈ wsX11_girl := fun w h => List.mem_cons_of_mem _ (List.mem_append_right _ h)
  have hin11 : ∀ w ∈ wsX110, w ∈ wsX11_girl := fun w h => List.mem_cons_of_mem _ (List.mem_append_left _ (List.mem_append_right _ h))
  have hl : lv_has ls 4 [(0, .ref (oa 0)), (1, .int (s0)), (2, .int (k))] := hl
  have hn6 := hs.2.1
  refine lv_aload_n hx hb dX11_girl_0 rfl (lv_at hl 0 rfl) ?_
  refine lv_iload_n hx hb dX11_girl_1 rfl (lv_at hl 1 rfl) ?_
  refine hg_vqF (r := cs_sa ad g s0) (As := [.int (s0)]) (rest := []) X w (c_X11_stallAt l D b0 L f oa C im mk ad n g hm hs ho s0) (cwV 1 hts gX11_girl_X11_stallAt rfl rfl rfl hdX11_stallAt ⟨Nat.le_of_ble_eq_true rfl, Nat.le_of_ble_eq_true rfl⟩) (ho.1 0 (by decide)).1 (ow_at ho (k := 0) (by decide)) rfl rfl rfl hl.1 rfl (Nat.le_of_ble_eq_true rfl) dX11_girl_2 ⟨Nat.zero_le _, Nat.zero_le _⟩ (fun H locs w => ?_)
  refine ob_qs hs (fun hz_s0 => ?_) (fun j_s0 hj_s0 e_s0 => ?_)
  · refine lv_astore_nN (lv' := [(3, .null), (0, .ref (oa 0)), (1, .int (s0)), (2, .int (k))]) hx hb dX11_girl_5 rfl hl (by decide) rfl (fun ls hl => ?_)
    refine lv_aload_nN hx hb dX11_girl_6 rfl (lv_at hl 0 rfl) ?_
    refine lv_ifnullN (tgt := 20) hx hb dX11_girl_7 (by decide) ?_
    refine lv_ldc (v := (-1000001)) hx hb hown (hts _ (List.mem_of_getElem? (i := 1) rfl)) dX11_girl_20 ?_
    exact hend H locs ((-1000001)) (L, ob_W D f oa C mk im mk ad n g) _ ls w ⟨(by (try simp only [lg_cmp_le, lg_cmp_ge, lg_cmp_lt, lg_cmp_gt, hs_if10, ← Int32.not_lt, ← Int64.not_lt, Classical.not_not] at hz_s0); first | (simp [cs_girl, va_up_self, hz_s0]; done) | (simp [cs_girl, va_up_self, hz_s0]; done) | (exfalso; clear hend ; simp_all; done)), (ob_eq (by (try simp only [lg_cmp_le, lg_cmp_ge, lg_cmp_lt, lg_cmp_gt, hs_if10, ← Int32.not_lt, ← Int64.not_lt, Classical.not_not] at hz_s0); first | (simp [cs_girl, va_up_self, hz_s0]; done) | (simp [cs_girl, va_up_self, hz_s0]; done) | (exfalso; clear hend ; simp_all; done)) (by (try simp only [lg_cmp_le, lg_cmp_ge, lg_cmp_lt, lg_cmp_gt, hs_if10, ← Int32.not_lt, ← Int64.not_lt, Classical.not_not] at hz_s0); first | (simp [cs_girl, va_up_self, hz_s0]; done) | (simp [cs_girl, va_up_self, hz_s0]; done) | (exfalso; clear hend ; simp_all; done)))⟩ rfl dX11_girl_22
  · subst e_s0
    have h1j_s0 := cs_st_1 hs hj_s0
    have hcj_s0 : (nI j_s0).toNatClampNeg = j_s0 := nI_clamp (by omega)
    refine lv_astore_n (lv' := [(3, .ref (ad (2 + j_s0))), (0, .ref (oa 0)), (1, .int (nI j_s0)), (2, .int (k))]) hx hb dX11_girl_5 rfl hl (by decide) rfl (fun ls hl => ?_)
    refine lv_aload_n hx hb dX11_girl_6 rfl (lv_at hl 0 rfl) ?_
    refine lv_ifnull hx hb dX11_girl_7 ?_
    refine lv_iload_n hx hb dX11_girl_10 rfl (lv_at hl 3 rfl) ?_
    refine lv_iconst (v := 1) hx hb dX11_girl_11 (by decide) ?_
    refine lv_icmp_eq (tgt := 23) hx hb dX11_girl_12 (by decide) (fun c_12 => ?_) (fun c_12 => ?_)
    · refine lv_iload_n hx hb dX11_girl_23 rfl (lv_at hl 3 rfl) ?_
      refine lv_iconst (v := (-1)) hx hb dX11_girl_24 (by decide) ?_
      refine lv_icmp_ne (tgt := 38) hx hb dX11_girl_25 (by decide) (fun c_25 => ?_) (fun c_25 => ?_)
      · refine lv_iload_n hx hb dX11_girl_38 rfl (lv_at hl 3 rfl) ?_
        refine lv_iconst (v := 1) hx hb dX11_girl_39 (by decide) ?_
        refine lv_icmp_ne (tgt := 55) hx hb dX11_girl_40 (by decide) (fun c_40 => ?_) (fun c_40 => ?_)
        · refine lv_aload_n hx hb dX11_girl_55 rfl (lv_at hl 1 rfl) ?_
          refine lv_iconst (v := 1) hx hb dX11_girl_56 (by decide) ?_
          refine lv_iload_n hx hb dX11_girl_57 rfl (lv_at hl 2 rfl) ?_
          refine lv_aload_n hx hb dX11_girl_58 rfl (lv_at hl 0 rfl) ?_
          refine mk_get X w hm hs hin hj_s0 5 (by decide) (List.mem_of_getElem? (i := 2) rfl) (Or.inl rfl) rfl dX11_girl_59 ?_
          refine lv_aload_n hx hb dX11_girl_62 rfl (lv_at hl 0 rfl) ?_
          refine mk_get X w hm hs hin hj_s0 5 (by decide) (List.mem_of_getElem? (i := 2) rfl) (Or.inl rfl) rfl dX11_girl_63 ?_
          refine lv_iload_n hx hb dX11_girl_66 rfl (lv_at hl 3 rfl) ?_
          refine lv_iadd hx hb dX11_girl_67 ?_
          refine hg_vvF (As := [.int (1), .int (nI j_s0), .int (g (38 + j_s0)), .int ((g (38 + j_s0) + k))]) (rest := []) X w (c_X11_act l D b0 L f oa C im mk ad n g hm hs ho a ha hCa 1 (nI j_s0) (g (38 + j_s0)) (g (38 + j_s0) + k)) (cwV 4 hts gX11_girl_X11_act rfl rfl rfl hdX11_act ⟨Nat.le_of_ble_eq_true rfl, Nat.le_of_ble_eq_true rfl⟩) (ho.1 0 (by decide)).1 (ow_at ho (k := 0) (by decide)) rfl rfl rfl hl.1 rfl (Nat.le_of_ble_eq_true rfl) dX11_girl_68 ⟨Nat.zero_le _, Nat.zero_le _⟩ (fun H locs w => ?_)
          rw [mk_pm_w1 hn6 hj_s0] at w
          refine lv_aload_n hx hb dX11_girl_71 rfl (lv_at hl 0 rfl) ?_
          refine mk_get X w hm (mk_sr_up (by omega) hs) hin hj_s0 5 (by decide) (List.mem_of_getElem? (i := 2) rfl) (Or.inl rfl) rfl dX11_girl_72 ?_
          exact hend H locs ((va_up g (38 + j_s0) (g (38 + j_s0) + k)) (38 + j_s0)) (L, ob_W D f oa (cs_log C a 1 (nI j_s0) (g (38 + j_s0))) mk im mk ad n (va_up g (38 + j_s0) (g (38 + j_s0) + k))) _ ls w ⟨(by (try simp only [lg_cmp_le, lg_cmp_ge, lg_cmp_lt, lg_cmp_gt, hs_if10, ← Int32.not_lt, ← Int64.not_lt, Classical.not_not] at c_12 c_25 c_40); first | (simp [cs_girl, va_up_self, c_12, c_25, c_40, h1j_s0, hcj_s0]; done) | (simp [cs_girl, va_up_self, eq_true c_12, c_25, c_40, h1j_s0, hcj_s0]; done) | (exfalso; clear hend ; simp_all; done)), (ob_eq (by (try simp only [lg_cmp_le, lg_cmp_ge, lg_cmp_lt, lg_cmp_gt, hs_if10, ← Int32.not_lt, ← Int64.not_lt, Classical.not_not] at c_12 c_25 c_40); first | (simp [cs_girl, va_up_self, c_12, c_25, c_40, h1j_s0, hcj_s0]; done) | (simp [cs_girl, va_up_self, eq_true c_12, c_25, c_40, h1j_s0, hcj_s0]; done) | (exfalso; clear hend ; simp_all; done)) (by (try simp only [lg_cmp_le, lg_cmp_ge, lg_cmp_lt, lg_cmp_gt, hs_if10, ← Int32.not_lt, ← Int64.not_lt, Classical.not_not] at c_12 c_25 c_40); first | (simp [cs_girl, va_up_self, c_12, c_25, c_40, h1j_s0, hcj_s0]; done) | (simp [cs_girl, va_up_self, eq_true c_12, c_25, c_40, h1j_s0, hcj_s0]; done) | (exfalso; clear hend ; simp_all; done)))⟩ rfl dX11_girl_75
        · refine lv_aload_n hx hb dX11_girl_43 rfl (lv_at hl 0 rfl) ?_
          refine mk_get X w hm hs hin hj_s0 5 (by decide) (List.mem_of_getElem? (i := 2) rfl) (Or.inl rfl) rfl dX11_girl_44 ?_
          refine lv_bipush (v := 9) hx hb dX11_girl_47 (by decide) ?_
          refine lv_icmp_lt (tgt := 55) hx hb dX11_girl_49 (by decide) (fun c_49 => ?_) (fun c_49 => ?_)
          · refine lv_aload_n hx hb dX11_girl_55 rfl (lv_at hl 1 rfl) ?_
            refine lv_iconst (v := 1) hx hb dX11_girl_56 (by decide) ?_
            refine lv_iload_n hx hb dX11_girl_57 rfl (lv_at hl 2 rfl) ?_
            refine lv_aload_n hx hb dX11_girl_58 rfl (lv_at hl 0 rfl) ?_
            refine mk_get X w hm hs hin hj_s0 5 (by decide) (List.mem_of_getElem? (i := 2) rfl) (Or.inl rfl) rfl dX11_girl_59 ?_
            refine lv_aload_n hx hb dX11_girl_62 rfl (lv_at hl 0 rfl) ?_
            refine mk_get X w hm hs hin hj_s0 5 (by decide) (List.mem_of_getElem? (i := 2) rfl) (Or.inl rfl) rfl dX11_girl_63 ?_
            refine lv_iload_n hx hb dX11_girl_66 rfl (lv_at hl 3 rfl) ?_
            refine lv_iadd hx hb dX11_girl_67 ?_
            refine hg_vvF (As := [.int (1), .int (nI j_s0), .int (g (38 + j_s0)), .int ((g (38 + j_s0) + k))]) (rest := []) X w (c_X11_act l D b0 L f oa C im mk ad n g hm hs ho a ha hCa 1 (nI j_s0) (g (38 + j_s0)) (g (38 + j_s0) + k)) (cwV 4 hts gX11_girl_X11_act rfl rfl rfl hdX11_act ⟨Nat.le_of_ble_eq_true rfl, Nat.le_of_ble_eq_true rfl⟩) (ho.1 0 (by decide)).1 (ow_at ho (k := 0) (by decide)) rfl rfl rfl hl.1 rfl (Nat.le_of_ble_eq_true rfl) dX11_girl_68 ⟨Nat.zero_le _, Nat.zero_le _⟩ (fun H locs w => ?_)
            rw [mk_pm_w1 hn6 hj_s0] at w
            refine lv_aload_n hx hb dX11_girl_71 rfl (lv_at hl 0 rfl) ?_
            refine mk_get X w hm (mk_sr_up (by omega) hs) hin hj_s0 5 (by decide) (List.mem_of_getElem? (i := 2) rfl) (Or.inl rfl) rfl dX11_girl_72 ?_
            exact hend H locs ((va_up g (38 + j_s0) (g (38 + j_s0) + k)) (38 + j_s0)) (L, ob_W D f oa (cs_log C a 1 (nI j_s0) (g (38 + j_s0))) mk im mk ad n (va_up g (38 + j_s0) (g (38 + j_s0) + k))) _ ls w ⟨(by (try simp only [lg_cmp_le, lg_cmp_ge, lg_cmp_lt, lg_cmp_gt, hs_if10, ← Int32.not_lt, ← Int64.not_lt, Classical.not_not] at c_12 c_25 c_40 c_49); first | (simp [cs_girl, va_up_self, c_12, c_25, c_40, c_49, h1j_s0, hcj_s0]; done) | (simp [cs_girl, va_up_self, eq_true c_12, c_25, eq_true c_40, c_49, h1j_s0, hcj_s0]; done) | (exfalso; clear hend ; simp_all; done)), (ob_eq (by (try simp only [lg_cmp_le, lg_cmp_ge, lg_cmp_lt, lg_cmp_gt, hs_if10, ← Int32.not_lt, ← Int64.not_lt, Classical.not_not] at c_12 c_25 c_40 c_49); first | (simp [cs_girl, va_up_self, c_12, c_25, c_40, c_49, h1j_s0, hcj_s0]; done) | (simp [cs_girl, va_up_self, eq_true c_12, c_25, eq_true c_40, c_49, h1j_s0, hcj_s0]; done) | (exfalso; clear hend ; simp_all; done)) (by (try simp only [lg_cmp_le, lg_cmp_ge, lg_cmp_lt, lg_cmp_gt, hs_if10, ← Int32.not_lt, ← Int64.not_lt, Classical.not_not] at c_12 c_25 c_40 c_49); first | (simp [cs_girl, va_up_self, c_12, c_25, c_40, c_49, h1j_s0, hcj_s0]; done) | (simp [cs_girl, va_up_self, eq_true c_12, c_25, eq_true c_40, c_49, h1j_s0, hcj_s0]; done) | (exfalso; clear hend ; simp_all; done)))⟩ rfl dX11_girl_75
          · refine lv_ldc (v := (-1000003)) hx hb hown (hts _ (List.mem_of_getElem? (i := 4) rfl)) dX11_girl_52 ?_
            exact hend H locs ((-1000003)) (L, ob_W D f oa C mk im mk ad n g) _ ls w ⟨(by (try simp only [lg_cmp_le, lg_cmp_ge, lg_cmp_lt, lg_cmp_gt, hs_if10, ← Int32.not_lt, ← Int64.not_lt, Classical.not_not] at c_12 c_25 c_40 c_49); first | (simp [cs_girl, va_up_self, c_12, c_25, c_40, c_49, h1j_s0, hcj_s0]; done) | (simp [cs_girl, va_up_self, eq_true c_12, c_25, eq_true c_40, c_49, h1j_s0, hcj_s0]; done) | (exfalso; clear hend ; simp_all; done)), (ob_eq (by (try simp only [lg_cmp_le, lg_cmp_ge, lg_cmp_lt, lg_cmp_gt, hs_if10, ← Int32.not_lt, ← Int64.not_lt, Classical.not_not] at c_12 c_25 c_40 c_49); first | (simp [cs_girl, va_up_self, c_12, c_25, c_40, c_49, h1j_s0, hcj_s0]; done) | (simp [cs_girl, va_up_self, eq_true c_12, c_25, eq_true c_40, c_49, h1j_s0, hcj_s0]; done) | (exfalso; clear hend ; simp_all; done)) (by (try simp only [lg_cmp_le, lg_cmp_ge, lg_cmp_lt, lg_cmp_gt, hs_if10, ← Int32.not_lt, ← Int64.not_lt, Classical.not_not] at c_12 c_25 c_40 c_49); first | (simp [cs_girl, va_up_self, c_12, c_25, c_40, c_49, h1j_s0, hcj_s0]; done) | (simp [cs_girl, va_up_self, eq_true c_12, c_25, eq_true c_40, c_49, h1j_s0, hcj_s0]; done) | (exfalso; clear hend ; simp_all; done)))⟩ rfl dX11_girl_54
      · refine lv_aload_n hx hb dX11_girl_28 rfl (lv_at hl 0 rfl) ?_
        refine mk_get X w hm hs hin hj_s0 5 (by decide) (List.mem_of_getElem? (i := 2) rfl) (Or.inl rfl) rfl dX11_girl_29 ?_
        refine lv_if_ne (tgt := 38) hx hb dX11_girl_32 (by decide) (fun c_32 => ?_) (fun c_32 => ?_)
        · refine lv_iload_n hx hb dX11_girl_38 rfl (lv_at hl 3 rfl) ?_
          refine lv_iconst (v := 1) hx hb dX11_girl_39 (by decide) ?_
          refine lv_icmp_ne (tgt := 55) hx hb dX11_girl_40 (by decide) (fun c_40 => ?_) (fun c_40 => ?_)
          · refine lv_aload_n hx hb dX11_girl_55 rfl (lv_at hl 1 rfl) ?_
            refine lv_iconst (v := 1) hx hb dX11_girl_56 (by decide) ?_
            refine lv_iload_n hx hb dX11_girl_57 rfl (lv_at hl 2 rfl) ?_
            refine lv_aload_n hx hb dX11_girl_58 rfl (lv_at hl 0 rfl) ?_
            refine mk_get X w hm hs hin hj_s0 5 (by decide) (List.mem_of_getElem? (i := 2) rfl) (Or.inl rfl) rfl dX11_girl_59 ?_
            refine lv_aload_n hx hb dX11_girl_62 rfl (lv_at hl 0 rfl) ?_
            refine mk_get X w hm hs hin hj_s0 5 (by decide) (List.mem_of_getElem? (i := 2) rfl) (Or.inl rfl) rfl dX11_girl_63 ?_
            refine lv_iload_n hx hb dX11_girl_66 rfl (lv_at hl 3 rfl) ?_
            refine lv_iadd hx hb dX11_girl_67 ?_
            refine hg_vvF (As := [.int (1), .int (nI j_s0), .int (g (38 + j_s0)), .int ((g (38 + j_s0) + k))]) (rest := []) X w (c_X11_act l D b0 L f oa C im mk ad n g hm hs ho a ha hCa 1 (nI j_s0) (g (38 + j_s0)) (g (38 + j_s0) + k)) (cwV 4 hts gX11_girl_X11_act rfl rfl rfl hdX11_act ⟨Nat.le_of_ble_eq_true rfl, Nat.le_of_ble_eq_true rfl⟩) (ho.1 0 (by decide)).1 (ow_at ho (k := 0) (by decide)) rfl rfl rfl hl.1 rfl (Nat.le_of_ble_eq_true rfl) dX11_girl_68 ⟨Nat.zero_le _, Nat.zero_le _⟩ (fun H locs w => ?_)
            rw [mk_pm_w1 hn6 hj_s0] at w
            refine lv_aload_n hx hb dX11_girl_71 rfl (lv_at hl 0 rfl) ?_
            refine mk_get X w hm (mk_sr_up (by omega) hs) hin hj_s0 5 (by decide) (List.mem_of_getElem? (i := 2) rfl) (Or.inl rfl) rfl dX11_girl_72 ?_
            exact hend H locs ((va_up g (38 + j_s0) (g (38 + j_s0) + k)) (38 + j_s0)) (L, ob_W D f oa (cs_log C a 1 (nI j_s0) (g (38 + j_s0))) mk im mk ad n (va_up g (38 + j_s0) (g (38 + j_s0) + k))) _ ls w ⟨(by (try simp only [lg_cmp_le, lg_cmp_ge, lg_cmp_lt, lg_cmp_gt, hs_if10, ← Int32.not_lt, ← Int64.not_lt, Classical.not_not] at c_12 c_25 c_32 c_40); first | (simp [cs_girl, va_up_self, c_12, c_25, c_32, c_40, h1j_s0, hcj_s0]; done) | (simp [cs_girl, va_up_self, eq_true c_12, eq_true c_25, c_32, c_40, h1j_s0, hcj_s0]; done) | (exfalso; clear hend ; simp_all; done)), (ob_eq (by (try simp only [lg_cmp_le, lg_cmp_ge, lg_cmp_lt, lg_cmp_gt, hs_if10, ← Int32.not_lt, ← Int64.not_lt, Classical.not_not] at c_12 c_25 c_32 c_40); first | (simp [cs_girl, va_up_self, c_12, c_25, c_32, c_40, h1j_s0, hcj_s0]; done) | (simp [cs_girl, va_up_self, eq_true c_12, eq_true c_25, c_32, c_40, h1j_s0, hcj_s0]; done) | (exfalso; clear hend ; simp_all; done)) (by (try simp only [lg_cmp_le, lg_cmp_ge, lg_cmp_lt, lg_cmp_gt, hs_if10, ← Int32.not_lt, ← Int64.not_lt, Classical.not_not] at c_12 c_25 c_32 c_40); first | (simp [cs_girl, va_up_self, c_12, c_25, c_32, c_40, h1j_s0, hcj_s0]; done) | (simp [cs_girl, va_up_self, eq_true c_12, eq_true c_25, c_32, c_40, h1j_s0, hcj_s0]; done) | (exfalso; clear hend ; simp_all; done)))⟩ rfl dX11_girl_75
          · refine lv_aload_n hx hb dX11_girl_43 rfl (lv_at hl 0 rfl) ?_
            refine mk_get X w hm hs hin hj_s0 5 (by decide) (List.mem_of_getElem? (i := 2) rfl) (Or.inl rfl) rfl dX11_girl_44 ?_
            refine lv_bipush (v := 9) hx hb dX11_girl_47 (by decide) ?_
            refine lv_icmp_lt (tgt := 55) hx hb dX11_girl_49 (by decide) (fun c_49 => ?_) (fun c_49 => ?_)
            · refine lv_aload_n hx hb dX11_girl_55 rfl (lv_at hl 1 rfl) ?_
              refine lv_iconst (v := 1) hx hb dX11_girl_56 (by decide) ?_
              refine lv_iload_n hx hb dX11_girl_57 rfl (lv_at hl 2 rfl) ?_
              refine lv_aload_n hx hb dX11_girl_58 rfl (lv_at hl 0 rfl) ?_
              refine mk_get X w hm hs hin hj_s0 5 (by decide) (List.mem_of_getElem? (i := 2) rfl) (Or.inl rfl) rfl dX11_girl_59 ?_
              refine lv_aload_n hx hb dX11_girl_62 rfl (lv_at hl 0 rfl) ?_
              refine mk_get X w hm hs hin hj_s0 5 (by decide) (List.mem_of_getElem? (i := 2) rfl) (Or.inl rfl) rfl dX11_girl_63 ?_
              refine lv_iload_n hx hb dX11_girl_66 rfl (lv_at hl 3 rfl) ?_
              refine lv_iadd hx hb dX11_girl_67 ?_
              refine hg_vvF (As := [.int (1), .int (nI j_s0), .int (g (38 + j_s0)), .int ((g (38 + j_s0) + k))]) (rest := []) X w (c_X11_act l D b0 L f oa C im mk ad n g hm hs ho a ha hCa 1 (nI j_s0) (g (38 + j_s0)) (g (38 + j_s0) + k)) (cwV 4 hts gX11_girl_X11_act rfl rfl rfl hdX11_act ⟨Nat.le_of_ble_eq_true rfl, Nat.le_of_ble_eq_true rfl⟩) (ho.1 0 (by decide)).1 (ow_at ho (k := 0) (by decide)) rfl rfl rfl hl.1 rfl (Nat.le_of_ble_eq_true rfl) dX11_girl_68 ⟨Nat.zero_le _, Nat.zero_le _⟩ (fun H locs w => ?_)
              rw [mk_pm_w1 hn6 hj_s0] at w
              refine lv_aload_n hx hb dX11_girl_71 rfl (lv_at hl 0 rfl) ?_
              refine mk_get X w hm (mk_sr_up (by omega) hs) hin hj_s0 5 (by decide) (List.mem_of_getElem? (i := 2) rfl) (Or.inl rfl) rfl dX11_girl_72 ?_
              exact hend H locs ((va_up g (38 + j_s0) (g (38 + j_s0) + k)) (38 + j_s0)) (L, ob_W D f oa (cs_log C a 1 (nI j_s0) (g (38 + j_s0))) mk im mk ad n (va_up g (38 + j_s0) (g (38 + j_s0) + k))) _ ls w ⟨(by (try simp only [lg_cmp_le, lg_cmp_ge, lg_cmp_lt, lg_cmp_gt, hs_if10, ← Int32.not_lt, ← Int64.not_lt, Classical.not_not] at c_12 c_25 c_32 c_40 c_49); first | (simp [cs_girl, va_up_self, c_12, c_25, c_32, c_40, c_49, h1j_s0, hcj_s0]; done) | (simp [cs_girl, va_up_self, eq_true c_12, eq_true c_25, c_32, eq_true c_40, c_49, h1j_s0, hcj_s0]; done) | (exfalso; clear hend ; simp_all; done)), (ob_eq (by (try simp only [lg_cmp_le, lg_cmp_ge, lg_cmp_lt, lg_cmp_gt, hs_if10, ← Int32.not_lt, ← Int64.not_lt, Classical.not_not] at c_12 c_25 c_32 c_40 c_49); first | (simp [cs_girl, va_up_self, c_12, c_25, c_32, c_40, c_49, h1j_s0, hcj_s0]; done) | (simp [cs_girl, va_up_self, eq_true c_12, eq_true c_25, c_32, eq_true c_40, c_49, h1j_s0, hcj_s0]; done) | (exfalso; clear hend ; simp_all; done)) (by (try simp only [lg_cmp_le, lg_cmp_ge, lg_cmp_lt, lg_cmp_gt, hs_if10, ← Int32.not_lt, ← Int64.not_lt, Classical.not_not] at c_12 c_25 c_32 c_40 c_49); first | (simp [cs_girl, va_up_self, c_12, c_25, c_32, c_40, c_49, h1j_s0, hcj_s0]; done) | (simp [cs_girl, va_up_self, eq_true c_12, eq_true c_25, c_32, eq_true c_40, c_49, h1j_s0, hcj_s0]; done) | (exfalso; clear hend ; simp_all; done)))⟩ rfl dX11_girl_75
            · refine lv_ldc (v := (-1000003)) hx hb hown (hts _ (List.mem_of_getElem? (i := 4) rfl)) dX11_girl_52 ?_
              exact hend H locs ((-1000003)) (L, ob_W D f oa C mk im mk ad n g) _ ls w ⟨(by (try simp only [lg_cmp_le, lg_cmp_ge, lg_cmp_lt, lg_cmp_gt, hs_if10, ← Int32.not_lt, ← Int64.not_lt, Classical.not_not] at c_12 c_25 c_32 c_40 c_49); first | (simp [cs_girl, va_up_self, c_12, c_25, c_32, c_40, c_49, h1j_s0, hcj_s0]; done) | (simp [cs_girl, va_up_self, eq_true c_12, eq_true c_25, c_32, eq_true c_40, c_49, h1j_s0, hcj_s0]; done) | (exfalso; clear hend ; simp_all; done)), (ob_eq (by (try simp only [lg_cmp_le, lg_cmp_ge, lg_cmp_lt, lg_cmp_gt, hs_if10, ← Int32.not_lt, ← Int64.not_lt, Classical.not_not] at c_12 c_25 c_32 c_40 c_49); first | (simp [cs_girl, va_up_self, c_12, c_25, c_32, c_40, c_49, h1j_s0, hcj_s0]; done) | (simp [cs_girl, va_up_self, eq_true c_12, eq_true c_25, c_32, eq_true c_40, c_49, h1j_s0, hcj_s0]; done) | (exfalso; clear hend ; simp_all; done)) (by (try simp only [lg_cmp_le, lg_cmp_ge, lg_cmp_lt, lg_cmp_gt, hs_if10, ← Int32.not_lt, ← Int64.not_lt, Classical.not_not] at c_12 c_25 c_32 c_40 c_49); first | (simp [cs_girl, va_up_self, c_12, c_25, c_32, c_40, c_49, h1j_s0, hcj_s0]; done) | (simp [cs_girl, va_up_self, eq_true c_12, eq_true c_25, c_32, eq_true c_40, c_49, h1j_s0, hcj_s0]; done) | (exfalso; clear hend ; simp_all; done)))⟩ rfl dX11_girl_54
        · refine lv_ldc (v := (-1000002)) hx hb hown (hts _ (List.mem_of_getElem? (i := 3) rfl)) dX11_girl_35 ?_
          exact hend H locs ((-1000002)) (L, ob_W D f oa C mk im mk ad n g) _ ls w ⟨(by (try simp only [lg_cmp_le, lg_cmp_ge, lg_cmp_lt, lg_cmp_gt, hs_if10, ← Int32.not_lt, ← Int64.not_lt, Classical.not_not] at c_12 c_25 c_32); first | (simp [cs_girl, va_up_self, c_12, c_25, c_32, h1j_s0, hcj_s0]; done) | (simp [cs_girl, va_up_self, eq_true c_12, eq_true c_25, eq_true c_32, h1j_s0, hcj_s0]; done) | (exfalso; clear hend ; simp_all; done)), (ob_eq (by (try simp only [lg_cmp_le, lg_cmp_ge, lg_cmp_lt, lg_cmp_gt, hs_if10, ← Int32.not_lt, ← Int64.not_lt, Classical.not_not] at c_12 c_25 c_32); first | (simp [cs_girl, va_up_self, c_12, c_25, c_32, h1j_s0, hcj_s0]; done) | (simp [cs_girl, va_up_self, eq_true c_12, eq_true c_25, eq_true c_32, h1j_s0, hcj_s0]; done) | (exfalso; clear hend ; simp_all; done)) (by (try simp only [lg_cmp_le, lg_cmp_ge, lg_cmp_lt, lg_cmp_gt, hs_if10, ← Int32.not_lt, ← Int64.not_lt, Classical.not_not] at c_12 c_25 c_32); first | (simp [cs_girl, va_up_self, c_12, c_25, c_32, h1j_s0, hcj_s0]; done) | (simp [cs_girl, va_up_self, eq_true c_12, eq_true c_25, eq_true c_32, h1j_s0, hcj_s0]; done) | (exfalso; clear hend ; simp_all; done)))⟩ rfl dX11_girl_37
    · refine lv_iload_n hx hb dX11_girl_15 rfl (lv_at hl 3 rfl) ?_
      refine lv_iconst (v := (-1)) hx hb dX11_girl_16 (by decide) ?_
      refine lv_icmp_eq (tgt := 23) hx hb dX11_girl_17 (by decide) (fun c_17 => ?_) (fun c_17 => ?_)
      · refine lv_iload_n hx hb dX11_girl_23 rfl (lv_at hl 3 rfl) ?_
        refine lv_iconst (v := (-1)) hx hb dX11_girl_24 (by decide) ?_
        refine lv_icmp_ne (tgt := 38) hx hb dX11_girl_25 (by decide) (fun c_25 => ?_) (fun c_25 => ?_)
        · refine lv_iload_n hx hb dX11_girl_38 rfl (lv_at hl 3 rfl) ?_
          refine lv_iconst (v := 1) hx hb dX11_girl_39 (by decide) ?_
          refine lv_icmp_ne (tgt := 55) hx hb dX11_girl_40 (by decide) (fun c_40 => ?_) (fun c_40 => ?_)
          · refine lv_aload_n hx hb dX11_girl_55 rfl (lv_at hl 1 rfl) ?_
            refine lv_iconst (v := 1) hx hb dX11_girl_56 (by decide) ?_
            refine lv_iload_n hx hb dX11_girl_57 rfl (lv_at hl 2 rfl) ?_
            refine lv_aload_n hx hb dX11_girl_58 rfl (lv_at hl 0 rfl) ?_
            refine mk_get X w hm hs hin hj_s0 5 (by decide) (List.mem_of_getElem? (i := 2) rfl) (Or.inl rfl) rfl dX11_girl_59 ?_
            refine lv_aload_n hx hb dX11_girl_62 rfl (lv_at hl 0 rfl) ?_
            refine mk_get X w hm hs hin hj_s0 5 (by decide) (List.mem_of_getElem? (i := 2) rfl) (Or.inl rfl) rfl dX11_girl_63 ?_
            refine lv_iload_n hx hb dX11_girl_66 rfl (lv_at hl 3 rfl) ?_
            refine lv_iadd hx hb dX11_girl_67 ?_
            refine hg_vvF (As := [.int (1), .int (nI j_s0), .int (g (38 + j_s0)), .int ((g (38 + j_s0) + k))]) (rest := []) X w (c_X11_act l D b0 L f oa C im mk ad n g hm hs ho a ha hCa 1 (nI j_s0) (g (38 + j_s0)) (g (38 + j_s0) + k)) (cwV 4 hts gX11_girl_X11_act rfl rfl rfl hdX11_act ⟨Nat.le_of_ble_eq_true rfl, Nat.le_of_ble_eq_true rfl⟩) (ho.1 0 (by decide)).1 (ow_at ho (k := 0) (by decide)) rfl rfl rfl hl.1 rfl (Nat.le_of_ble_eq_true rfl) dX11_girl_68 ⟨Nat.zero_le _, Nat.zero_le _⟩ (fun H locs w => ?_)
            rw [mk_pm_w1 hn6 hj_s0] at w
            refine lv_aload_n hx hb dX11_girl_71 rfl (lv_at hl 0 rfl) ?_
            refine mk_get X w hm (mk_sr_up (by omega) hs) hin hj_s0 5 (by decide) (List.mem_of_getElem? (i := 2) rfl) (Or.inl rfl) rfl dX11_girl_72 ?_
            exact hend H locs ((va_up g (38 + j_s0) (g (38 + j_s0) + k)) (38 + j_s0)) (L, ob_W D f oa (cs_log C a 1 (nI j_s0) (g (38 + j_s0))) mk im mk ad n (va_up g (38 + j_s0) (g (38 + j_s0) + k))) _ ls w ⟨(by (try simp only [lg_cmp_le, lg_cmp_ge, lg_cmp_lt, lg_cmp_gt, hs_if10, ← Int32.not_lt, ← Int64.not_lt, Classical.not_not] at c_12 c_17 c_25 c_40); first | (simp [cs_girl, va_up_self, c_12, c_17, c_25, c_40, h1j_s0, hcj_s0]; done) | (simp [cs_girl, va_up_self, c_12, eq_true c_17, c_25, c_40, h1j_s0, hcj_s0]; done) | (exfalso; clear hend ; simp_all; done)), (ob_eq (by (try simp only [lg_cmp_le, lg_cmp_ge, lg_cmp_lt, lg_cmp_gt, hs_if10, ← Int32.not_lt, ← Int64.not_lt, Classical.not_not] at c_12 c_17 c_25 c_40); first | (simp [cs_girl, va_up_self, c_12, c_17, c_25, c_40, h1j_s0, hcj_s0]; done) | (simp [cs_girl, va_up_self, c_12, eq_true c_17, c_25, c_40, h1j_s0, hcj_s0]; done) | (exfalso; clear hend ; simp_all; done)) (by (try simp only [lg_cmp_le, lg_cmp_ge, lg_cmp_lt, lg_cmp_gt, hs_if10, ← Int32.not_lt, ← Int64.not_lt, Classical.not_not] at c_12 c_17 c_25 c_40); first | (simp [cs_girl, va_up_self, c_12, c_17, c_25, c_40, h1j_s0, hcj_s0]; done) | (simp [cs_girl, va_up_self, c_12, eq_true c_17, c_25, c_40, h1j_s0, hcj_s0]; done) | (exfalso; clear hend ; simp_all; done)))⟩ rfl dX11_girl_75
          · refine lv_aload_n hx hb dX11_girl_43 rfl (lv_at hl 0 rfl) ?_
            refine mk_get X w hm hs hin hj_s0 5 (by decide) (List.mem_of_getElem? (i := 2) rfl) (Or.inl rfl) rfl dX11_girl_44 ?_
            refine lv_bipush (v := 9) hx hb dX11_girl_47 (by decide) ?_
            refine lv_icmp_lt (tgt := 55) hx hb dX11_girl_49 (by decide) (fun c_49 => ?_) (fun c_49 => ?_)
            · refine lv_aload_n hx hb dX11_girl_55 rfl (lv_at hl 1 rfl) ?_
              refine lv_iconst (v := 1) hx hb dX11_girl_56 (by decide) ?_
              refine lv_iload_n hx hb dX11_girl_57 rfl (lv_at hl 2 rfl) ?_
              refine lv_aload_n hx hb dX11_girl_58 rfl (lv_at hl 0 rfl) ?_
              refine mk_get X w hm hs hin hj_s0 5 (by decide) (List.mem_of_getElem? (i := 2) rfl) (Or.inl rfl) rfl dX11_girl_59 ?_
              refine lv_aload_n hx hb dX11_girl_62 rfl (lv_at hl 0 rfl) ?_
              refine mk_get X w hm hs hin hj_s0 5 (by decide) (List.mem_of_getElem? (i := 2) rfl) (Or.inl rfl) rfl dX11_girl_63 ?_
              refine lv_iload_n hx hb dX11_girl_66 rfl (lv_at hl 3 rfl) ?_
              refine lv_iadd hx hb dX11_girl_67 ?_
              refine hg_vvF (As := [.int (1), .int (nI j_s0), .int (g (38 + j_s0)), .int ((g (38 + j_s0) + k))]) (rest := []) X w (c_X11_act l D b0 L f oa C im mk ad n g hm hs ho a ha hCa 1 (nI j_s0) (g (38 + j_s0)) (g (38 + j_s0) + k)) (cwV 4 hts gX11_girl_X11_act rfl rfl rfl hdX11_act ⟨Nat.le_of_ble_eq_true rfl, Nat.le_of_ble_eq_true rfl⟩) (ho.1 0 (by decide)).1 (ow_at ho (k := 0) (by decide)) rfl rfl rfl hl.1 rfl (Nat.le_of_ble_eq_true rfl) dX11_girl_68 ⟨Nat.zero_le _, Nat.zero_le _⟩ (fun H locs w => ?_)
              rw [mk_pm_w1 hn6 hj_s0] at w
              refine lv_aload_n hx hb dX11_girl_71 rfl (lv_at hl 0 rfl) ?_
              refine mk_get X w hm (mk_sr_up (by omega) hs) hin hj_s0 5 (by decide) (List.mem_of_getElem? (i := 2) rfl) (Or.inl rfl) rfl dX11_girl_72 ?_
              exact hend H locs ((va_up g (38 + j_s0) (g (38 + j_s0) + k)) (38 + j_s0)) (L, ob_W D f oa (cs_log C a 1 (nI j_s0) (g (38 + j_s0))) mk im mk ad n (va_up g (38 + j_s0) (g (38 + j_s0) + k))) _ ls w ⟨(by (try simp only [lg_cmp_le, lg_cmp_ge, lg_cmp_lt, lg_cmp_gt, hs_if10, ← Int32.not_lt, ← Int64.not_lt, Classical.not_not] at c_12 c_17 c_25 c_40 c_49); first | (simp [cs_girl, va_up_self, c_12, c_17, c_25, c_40, c_49, h1j_s0, hcj_s0]; done) | (simp [cs_girl, va_up_self, c_12, eq_true c_17, c_25, eq_true c_40, c_49, h1j_s0, hcj_s0]; done) | (exfalso; clear hend ; simp_all; done)), (ob_eq (by (try simp only [lg_cmp_le, lg_cmp_ge, lg_cmp_lt, lg_cmp_gt, hs_if10, ← Int32.not_lt, ← Int64.not_lt, Classical.not_not] at c_12 c_17 c_25 c_40 c_49); first | (simp [cs_girl, va_up_self, c_12, c_17, c_25, c_40, c_49, h1j_s0, hcj_s0]; done) | (simp [cs_girl, va_up_self, c_12, eq_true c_17, c_25, eq_true c_40, c_49, h1j_s0, hcj_s0]; done) | (exfalso; clear hend ; simp_all; done)) (by (try simp only [lg_cmp_le, lg_cmp_ge, lg_cmp_lt, lg_cmp_gt, hs_if10, ← Int32.not_lt, ← Int64.not_lt, Classical.not_not] at c_12 c_17 c_25 c_40 c_49); first | (simp [cs_girl, va_up_self, c_12, c_17, c_25, c_40, c_49, h1j_s0, hcj_s0]; done) | (simp [cs_girl, va_up_self, c_12, eq_true c_17, c_25, eq_true c_40, c_49, h1j_s0, hcj_s0]; done) | (exfalso; clear hend ; simp_all; done)))⟩ rfl dX11_girl_75
            · refine lv_ldc (v := (-1000003)) hx hb hown (hts _ (List.mem_of_getElem? (i := 4) rfl)) dX11_girl_52 ?_
              exact hend H locs ((-1000003)) (L, ob_W D f oa C mk im mk ad n g) _ ls w ⟨(by (try simp only [lg_cmp_le, lg_cmp_ge, lg_cmp_lt, lg_cmp_gt, hs_if10, ← Int32.not_lt, ← Int64.not_lt, Classical.not_not] at c_12 c_17 c_25 c_40 c_49); first | (simp [cs_girl, va_up_self, c_12, c_17, c_25, c_40, c_49, h1j_s0, hcj_s0]; done) | (simp [cs_girl, va_up_self, c_12, eq_true c_17, c_25, eq_true c_40, c_49, h1j_s0, hcj_s0]; done) | (exfalso; clear hend ; simp_all; done)), (ob_eq (by (try simp only [lg_cmp_le, lg_cmp_ge, lg_cmp_lt, lg_cmp_gt, hs_if10, ← Int32.not_lt, ← Int64.not_lt, Classical.not_not] at c_12 c_17 c_25 c_40 c_49); first | (simp [cs_girl, va_up_self, c_12, c_17, c_25, c_40, c_49, h1j_s0, hcj_s0]; done) | (simp [cs_girl, va_up_self, c_12, eq_true c_17, c_25, eq_true c_40, c_49, h1j_s0, hcj_s0]; done) | (exfalso; clear hend ; simp_all; done)) (by (try simp only [lg_cmp_le, lg_cmp_ge, lg_cmp_lt, lg_cmp_gt, hs_if10, ← Int32.not_lt, ← Int64.not_lt, Classical.not_not] at c_12 c_17 c_25 c_40 c_49); first | (simp [cs_girl, va_up_self, c_12, c_17, c_25, c_40, c_49, h1j_s0, hcj_s0]; done) | (simp [cs_girl, va_up_self, c_12, eq_true c_17, c_25, eq_true c_40, c_49, h1j_s0, hcj_s0]; done) | (exfalso; clear hend ; simp_all; done)))⟩ rfl dX11_girl_54
        · refine lv_aload_n hx hb dX11_girl_28 rfl (lv_at hl 0 rfl) ?_
          refine mk_get X w hm hs hin hj_s0 5 (by decide) (List.mem_of_getElem? (i := 2) rfl) (Or.inl rfl) rfl dX11_girl_29 ?_
          refine lv_if_ne (tgt := 38) hx hb dX11_girl_32 (by decide) (fun c_32 => ?_) (fun c_32 => ?_)
          · refine lv_iload_n hx hb dX11_girl_38 rfl (lv_at hl 3 rfl) ?_
            refine lv_iconst (v := 1) hx hb dX11_girl_39 (by decide) ?_
            refine lv_icmp_ne (tgt := 55) hx hb dX11_girl_40 (by decide) (fun c_40 => ?_) (fun c_40 => ?_)
            · refine lv_aload_n hx hb dX11_girl_55 rfl (lv_at hl 1 rfl) ?_
              refine lv_iconst (v := 1) hx hb dX11_girl_56 (by decide) ?_
              refine lv_iload_n hx hb dX11_girl_57 rfl (lv_at hl 2 rfl) ?_
              refine lv_aload_n hx hb dX11_girl_58 rfl (lv_at hl 0 rfl) ?_
              refine mk_get X w hm hs hin hj_s0 5 (by decide) (List.mem_of_getElem? (i := 2) rfl) (Or.inl rfl) rfl dX11_girl_59 ?_
              refine lv_aload_n hx hb dX11_girl_62 rfl (lv_at hl 0 rfl) ?_
              refine mk_get X w hm hs hin hj_s0 5 (by decide) (List.mem_of_getElem? (i := 2) rfl) (Or.inl rfl) rfl dX11_girl_63 ?_
              refine lv_iload_n hx hb dX11_girl_66 rfl (lv_at hl 3 rfl) ?_
              refine lv_iadd hx hb dX11_girl_67 ?_
              refine hg_vvF (As := [.int (1), .int (nI j_s0), .int (g (38 + j_s0)), .int ((g (38 + j_s0) + k))]) (rest := []) X w (c_X11_act l D b0 L f oa C im mk ad n g hm hs ho a ha hCa 1 (nI j_s0) (g (38 + j_s0)) (g (38 + j_s0) + k)) (cwV 4 hts gX11_girl_X11_act rfl rfl rfl hdX11_act ⟨Nat.le_of_ble_eq_true rfl, Nat.le_of_ble_eq_true rfl⟩) (ho.1 0 (by decide)).1 (ow_at ho (k := 0) (by decide)) rfl rfl rfl hl.1 rfl (Nat.le_of_ble_eq_true rfl) dX11_girl_68 ⟨Nat.zero_le _, Nat.zero_le _⟩ (fun H locs w => ?_)
              rw [mk_pm_w1 hn6 hj_s0] at w
              refine lv_aload_n hx hb dX11_girl_71 rfl (lv_at hl 0 rfl) ?_
              refine mk_get X w hm (mk_sr_up (by omega) hs) hin hj_s0 5 (by decide) (List.mem_of_getElem? (i := 2) rfl) (Or.inl rfl) rfl dX11_girl_72 ?_
              exact hend H locs ((va_up g (38 + j_s0) (g (38 + j_s0) + k)) (38 + j_s0)) (L, ob_W D f oa (cs_log C a 1 (nI j_s0) (g (38 + j_s0))) mk im mk ad n (va_up g (38 + j_s0) (g (38 + j_s0) + k))) _ ls w ⟨(by (try simp only [lg_cmp_le, lg_cmp_ge, lg_cmp_lt, lg_cmp_gt, hs_if10, ← Int32.not_lt, ← Int64.not_lt, Classical.not_not] at c_12 c_17 c_25 c_32 c_40); first | (simp [cs_girl, va_up_self, c_12, c_17, c_25, c_32, c_40, h1j_s0, hcj_s0]; done) | (simp [cs_girl, va_up_self, c_12, eq_true c_17, eq_true c_25, c_32, c_40, h1j_s0, hcj_s0]; done) | (exfalso; clear hend ; simp_all; done)), (ob_eq (by (try simp only [lg_cmp_le, lg_cmp_ge, lg_cmp_lt, lg_cmp_gt, hs_if10, ← Int32.not_lt, ← Int64.not_lt, Classical.not_not] at c_12 c_17 c_25 c_32 c_40); first | (simp [cs_girl, va_up_self, c_12, c_17, c_25, c_32, c_40, h1j_s0, hcj_s0]; done) | (simp [cs_girl, va_up_self, c_12, eq_true c_17, eq_true c_25, c_32, c_40, h1j_s0, hcj_s0]; done) | (exfalso; clear hend ; simp_all; done)) (by (try simp only [lg_cmp_le, lg_cmp_ge, lg_cmp_lt, lg_cmp_gt, hs_if10, ← Int32.not_lt, ← Int64.not_lt, Classical.not_not] at c_12 c_17 c_25 c_32 c_40); first | (simp [cs_girl, va_up_self, c_12, c_17, c_25, c_32, c_40, h1j_s0, hcj_s0]; done) | (simp [cs_girl, va_up_self, c_12, eq_true c_17, eq_true c_25, c_32, c_40, h1j_s0, hcj_s0]; done) | (exfalso; clear hend ; simp_all; done)))⟩ rfl dX11_girl_75
            · refine lv_aload_n hx hb dX11_girl_43 rfl (lv_at hl 0 rfl) ?_
              refine mk_get X w hm hs hin hj_s0 5 (by decide) (List.mem_of_getElem? (i := 2) rfl) (Or.inl rfl) rfl dX11_girl_44 ?_
              refine lv_bipush (v := 9) hx hb dX11_girl_47 (by decide) ?_
              refine lv_icmp_lt (tgt := 55) hx hb dX11_girl_49 (by decide) (fun c_49 => ?_) (fun c_49 => ?_)
              · refine lv_aload_n hx hb dX11_girl_55 rfl (lv_at hl 1 rfl) ?_
                refine lv_iconst (v := 1) hx hb dX11_girl_56 (by decide) ?_
                refine lv_iload_n hx hb dX11_girl_57 rfl (lv_at hl 2 rfl) ?_
                refine lv_aload_n hx hb dX11_girl_58 rfl (lv_at hl 0 rfl) ?_
                refine mk_get X w hm hs hin hj_s0 5 (by decide) (List.mem_of_getElem? (i := 2) rfl) (Or.inl rfl) rfl dX11_girl_59 ?_
                refine lv_aload_n hx hb dX11_girl_62 rfl (lv_at hl 0 rfl) ?_
                refine mk_get X w hm hs hin hj_s0 5 (by decide) (List.mem_of_getElem? (i := 2) rfl) (Or.inl rfl) rfl dX11_girl_63 ?_
                refine lv_iload_n hx hb dX11_girl_66 rfl (lv_at hl 3 rfl) ?_
                refine lv_iadd hx hb dX11_girl_67 ?_
                refine hg_vvF (As := [.int (1), .int (nI j_s0), .int (g (38 + j_s0)), .int ((g (38 + j_s0) + k))]) (rest := []) X w (c_X11_act l D b0 L f oa C im mk ad n g hm hs ho a ha hCa 1 (nI j_s0) (g (38 + j_s0)) (g (38 + j_s0) + k)) (cwV 4 hts gX11_girl_X11_act rfl rfl rfl hdX11_act ⟨Nat.le_of_ble_eq_true rfl, Nat.le_of_ble_eq_true rfl⟩) (ho.1 0 (by decide)).1 (ow_at ho (k := 0) (by decide)) rfl rfl rfl hl.1 rfl (Nat.le_of_ble_eq_true rfl) dX11_girl_68 ⟨Nat.zero_le _, Nat.zero_le _⟩ (fun H locs w => ?_)
                rw [mk_pm_w1 hn6 hj_s0] at w
                refine lv_aload_n hx hb dX11_girl_71 rfl (lv_at hl 0 rfl) ?_
                refine mk_get X w hm (mk_sr_up (by omega) hs) hin hj_s0 5 (by decide) (List.mem_of_getElem? (i := 2) rfl) (Or.inl rfl) rfl dX11_girl_72 ?_
                exact hend H locs ((va_up g (38 + j_s0) (g (38 + j_s0) + k)) (38 + j_s0)) (L, ob_W D f oa (cs_log C a 1 (nI j_s0) (g (38 + j_s0))) mk im mk ad n (va_up g (38 + j_s0) (g (38 + j_s0) + k))) _ ls w ⟨(by (try simp only [lg_cmp_le, lg_cmp_ge, lg_cmp_lt, lg_cmp_gt, hs_if10, ← Int32.not_lt, ← Int64.not_lt, Classical.not_not] at c_12 c_17 c_25 c_32 c_40 c_49); first | (simp [cs_girl, va_up_self, c_12, c_17, c_25, c_32, c_40, c_49, h1j_s0, hcj_s0]; done) | (simp [cs_girl, va_up_self, c_12, eq_true c_17, eq_true c_25, c_32, eq_true c_40, c_49, h1j_s0, hcj_s0]; done) | (exfalso; clear hend ; simp_all; done)), (ob_eq (by (try simp only [lg_cmp_le, lg_cmp_ge, lg_cmp_lt, lg_cmp_gt, hs_if10, ← Int32.not_lt, ← Int64.not_lt, Classical.not_not] at c_12 c_17 c_25 c_32 c_40 c_49); first | (simp [cs_girl, va_up_self, c_12, c_17, c_25, c_32, c_40, c_49, h1j_s0, hcj_s0]; done) | (simp [cs_girl, va_up_self, c_12, eq_true c_17, eq_true c_25, c_32, eq_true c_40, c_49, h1j_s0, hcj_s0]; done) | (exfalso; clear hend ; simp_all; done)) (by (try simp only [lg_cmp_le, lg_cmp_ge, lg_cmp_lt, lg_cmp_gt, hs_if10, ← Int32.not_lt, ← Int64.not_lt, Classical.not_not] at c_12 c_17 c_25 c_32 c_40 c_49); first | (simp [cs_girl, va_up_self, c_12, c_17, c_25, c_32, c_40, c_49, h1j_s0, hcj_s0]; done) | (simp [cs_girl, va_up_self, c_12, eq_true c_17, eq_true c_25, c_32, eq_true c_40, c_49, h1j_s0, hcj_s0]; done) | (exfalso; clear hend ; simp_all; done)))⟩ rfl dX11_girl_75
              · refine lv_ldc (v := (-1000003)) hx hb hown (hts _ (List.mem_of_getElem? (i := 4) rfl)) dX11_girl_52 ?_
                exact hend H locs ((-1000003)) (L, ob_W D f oa C mk im mk ad n g) _ ls w ⟨(by (try simp only [lg_cmp_le, lg_cmp_ge, lg_cmp_lt, lg_cmp_gt, hs_if10, ← Int32.not_lt, ← Int64.not_lt, Classical.not_not] at c_12 c_17 c_25 c_32 c_40 c_49); first | (simp [cs_girl, va_up_self, c_12, c_17, c_25, c_32, c_40, c_49, h1j_s0, hcj_s0]; done) | (simp [cs_girl, va_up_self, c_12, eq_true c_17, eq_true c_25, c_32, eq_true c_40, c_49, h1j_s0, hcj_s0]; done) | (exfalso; clear hend ; simp_all; done)), (ob_eq (by (try simp only [lg_cmp_le, lg_cmp_ge, lg_cmp_lt, lg_cmp_gt, hs_if10, ← Int32.not_lt, ← Int64.not_lt, Classical.not_not] at c_12 c_17 c_25 c_32 c_40 c_49); first | (simp [cs_girl, va_up_self, c_12, c_17, c_25, c_32, c_40, c_49, h1j_s0, hcj_s0]; done) | (simp [cs_girl, va_up_self, c_12, eq_true c_17, eq_true c_25, c_32, eq_true c_40, c_49, h1j_s0, hcj_s0]; done) | (exfalso; clear hend ; simp_all; done)) (by (try simp only [lg_cmp_le, lg_cmp_ge, lg_cmp_lt, lg_cmp_gt, hs_if10, ← Int32.not_lt, ← Int64.not_lt, Classical.not_not] at c_12 c_17 c_25 c_32 c_40 c_49); first | (simp [cs_girl, va_up_self, c_12, c_17, c_25, c_32, c_40, c_49, h1j_s0, hcj_s0]; done) | (simp [cs_girl, va_up_self, c_12, eq_true c_17, eq_true c_25, c_32, eq_true c_40, c_49, h1j_s0, hcj_s0]; done) | (exfalso; clear hend ; simp_all; done)))⟩ rfl dX11_girl_54
          · refine lv_ldc (v := (-1000002)) hx hb hown (hts _ (List.mem_of_getElem? (i := 3) rfl)) dX11_girl_35 ?_
            exact hend H locs ((-1000002)) (L, ob_W D f oa C mk im mk ad n g) _ ls w ⟨(by (try simp only [lg_cmp_le, lg_cmp_ge, lg_cmp_lt, lg_cmp_gt, hs_if10, ← Int32.not_lt, ← Int64.not_lt, Classical.not_not] at c_12 c_17 c_25 c_32); first | (simp [cs_girl, va_up_self, c_12, c_17, c_25, c_32, h1j_s0, hcj_s0]; done) | (simp [cs_girl, va_up_self, c_12, eq_true c_17, eq_true c_25, eq_true c_32, h1j_s0, hcj_s0]; done) | (exfalso; clear hend ; simp_all; done)), (ob_eq (by (try simp only [lg_cmp_le, lg_cmp_ge, lg_cmp_lt, lg_cmp_gt, hs_if10, ← Int32.not_lt, ← Int64.not_lt, Classical.not_not] at c_12 c_17 c_25 c_32); first | (simp [cs_girl, va_up_self, c_12, c_17, c_25, c_32, h1j_s0, hcj_s0]; done) | (simp [cs_girl, va_up_self, c_12, eq_true c_17, eq_true c_25, eq_true c_32, h1j_s0, hcj_s0]; done) | (exfalso; clear hend ; simp_all; done)) (by (try simp only [lg_cmp_le, lg_cmp_ge, lg_cmp_lt, lg_cmp_gt, hs_if10, ← Int32.not_lt, ← Int64.not_lt, Classical.not_not] at c_12 c_17 c_25 c_32); first | (simp [cs_girl, va_up_self, c_12, c_17, c_25, c_32, h1j_s0, hcj_s0]; done) | (simp [cs_girl, va_up_self, c_12, eq_true c_17, eq_true c_25, eq_true c_32, h1j_s0, hcj_s0]; done) | (exfalso; clear hend ; simp_all; done)))⟩ rfl dX11_girl_37
      · refine lv_ldc (v := (-1000001)) hx hb hown (hts _ (List.mem_of_getElem? (i := 1) rfl)) dX11_girl_20 ?_
        exact hend H locs ((-1000001)) (L, ob_W D f oa C mk im mk ad n g) _ ls w ⟨(by (try simp only [lg_cmp_le, lg_cmp_ge, lg_cmp_lt, lg_cmp_gt, hs_if10, ← Int32.not_lt, ← Int64.not_lt, Classical.not_not] at c_12 c_17); first | (simp [cs_girl, va_up_self, c_12, c_17, h1j_s0, hcj_s0]; done) | (simp [cs_girl, va_up_self, c_12, c_17, h1j_s0, hcj_s0]; done) | (exfalso; clear hend ; simp_all; done)), (ob_eq (by (try simp only [lg_cmp_le, lg_cmp_ge, lg_cmp_lt, lg_cmp_gt, hs_if10, ← Int32.not_lt, ← Int64.not_lt, Classical.not_not] at c_12 c_17); first | (simp [cs_girl, va_up_self, c_12, c_17, h1j_s0, hcj_s0]; done) | (simp [cs_girl, va_up_self, c_12, c_17, h1j_s0, hcj_s0]; done) | (exfalso; clear hend ; simp_all; done)) (by (try simp only [lg_cmp_le, lg_cmp_ge, lg_cmp_lt, lg_cmp_gt, hs_if10, ← Int32.not_lt, ← Int64.not_lt, Classical.not_not] at c_12 c_17); first | (simp [cs_girl, va_up_self, c_12, c_17, h1j_s0, hcj_s0]; done) | (simp [cs_girl, va_up_self, c_12, c_17, h1j_s0, hcj_s0]; done) | (exfalso; clear hend ; simp_all; done)))⟩ rfl dX11_girl_22
set_option maxRecDepth 100000 in
set_option maxHeartbeats 4000000 in
theorem c_X11_unload (l : Launch) (D : va_G) (b0 : Nat) (L : List Nat) (f : Nat → va_E) (oa : Nat → Nat) (C : Nat → Nat → Int32) (im : Nat → Option Nat) (mk : Nat) (ad : Nat → Nat) (n : Nat) (g : Nat → Int32) (hm : mk_ok L mk ad n) (hs : mk_sr g n) (ho : ob_ok L oa mk ad n) (a : Nat) (ha : a ≤ 24) (hCa : C 1 0 = nI a) (s0 k : Int32) : hg_Fi l yX11_unload wsX11_unload ({ frames := 3, cells := 0, slots := 0, locals := 70 }) D b0 L (ob_W D f oa C mk im mk ad n g) [.ref (oa 0), .int (s0), .int (k)] ((cs_unload C g a s0 k).1) (ob_W D f oa ((cs_unload C g a s0 k).2.1) mk im mk ad n ((cs_unload C g a s0 k).2.2)) := by
  refine hg_in_i (cc := cX11_unload) (nL := 4) (by decide) rfl (Nat.le_of_ble_eq_true rfl) (fun p e s m args below meth c R Q X hR hend H locs ls w hl => ?_)
  subst hR
  obtain ⟨hx, hb, hml, hown, hts⟩ := id X.1
  have hin : mk_in wsX11_unload := ⟨fun w h => List.mem_cons_of_mem _ (List.mem_append_left _ (List.mem_append_left _ (List.mem_append_left _ (List.mem_append_left _ (List.mem_append_left _ (List.mem_append_left _ (List.mem_append_right _ h))))))), fun w h => List.mem_cons_of_mem _ (List.mem_append_left _ (List.mem_append_left _ (List.mem_append_left _ (List.mem_append_left _ (List.mem_append_left _ (List.mem_append_right _ h)))))), fun w h => List.mem_cons_of_mem _ (List.mem_append_left _ (List.mem_append_left _ (List.mem_append_left _ (List.mem_append_left _ (List.mem_append_right _ h))))), fun w h => List.mem_cons_of_mem _ (List.mem_append_left _ (List.mem_append_left _ (List.mem_append_left _ (List.mem_append_right _ h)))), fun w h => List.mem_cons_of_mem _ (List.mem_append_left _ (List.mem_append_left _ (List.mem_append_right _ h)))⟩
  have hin3 : ∀ w ∈ wsX30, w ∈ wsX11_unload := fun w h => List.mem_cons_of_mem _ (List.mem_append_right _ h)
  have hin11 : ∀ w ∈ wsX110, w ∈ wsX11_unload := fun w h => List.mem_cons_of_mem _ (List.mem_append_left _ (List.mem_append_right _ h))
  have hl : lv_has ls 4 [(0, .ref (oa 0)), (1, .int (s0)), (2, .int (k))] := hl
  have hn6 := hs.2.1
  refine lv_aload_n hx hb dX11_unload_0 rfl (lv_at hl 0 rfl) ?_
  refine lv_iload_n hx hb dX11_unload_1 rfl (lv_at hl 1 rfl) ?_
  refine hg_vqF (r := cs_sa ad g s0) (As := [.int (s0)]) (rest := []) X w (c_X11_stallAt l D b0 L f oa C im mk ad n g hm hs ho s0) (cwV 1 hts gX11_unload_X11_stallAt rfl rfl rfl hdX11_stallAt ⟨Nat.le_of_ble_eq_true rfl, Nat.le_of_ble_eq_true rfl⟩) (ho.1 0 (by decide)).1 (ow_at ho (k := 0) (by decide)) rfl rfl rfl hl.1 rfl (Nat.le_of_ble_eq_true rfl) dX11_unload_2 ⟨Nat.zero_le _, Nat.zero_le _⟩ (fun H locs w => ?_)
  refine ob_qs hs (fun hz_s0 => ?_) (fun j_s0 hj_s0 e_s0 => ?_)
  · refine lv_astore_nN (lv' := [(3, .null), (0, .ref (oa 0)), (1, .int (s0)), (2, .int (k))]) hx hb dX11_unload_5 rfl hl (by decide) rfl (fun ls hl => ?_)
    refine lv_aload_nN hx hb dX11_unload_6 rfl (lv_at hl 0 rfl) ?_
    refine lv_ifnullN (tgt := 19) hx hb dX11_unload_7 (by decide) ?_
    refine lv_ldc (v := (-1000001)) hx hb hown (hts _ (List.mem_of_getElem? (i := 1) rfl)) dX11_unload_19 ?_
    exact hend H locs ((-1000001)) (L, ob_W D f oa C mk im mk ad n g) _ ls w ⟨(by (try simp only [lg_cmp_le, lg_cmp_ge, lg_cmp_lt, lg_cmp_gt, hs_if10, ← Int32.not_lt, ← Int64.not_lt, Classical.not_not] at hz_s0); first | (simp [cs_unload, hz_s0]; done) | (simp [cs_unload, hz_s0]; done) | (exfalso; clear hend ; simp_all; done)), (ob_eq (by (try simp only [lg_cmp_le, lg_cmp_ge, lg_cmp_lt, lg_cmp_gt, hs_if10, ← Int32.not_lt, ← Int64.not_lt, Classical.not_not] at hz_s0); first | (simp [cs_unload, hz_s0]; done) | (simp [cs_unload, hz_s0]; done) | (exfalso; clear hend ; simp_all; done)) (by (try simp only [lg_cmp_le, lg_cmp_ge, lg_cmp_lt, lg_cmp_gt, hs_if10, ← Int32.not_lt, ← Int64.not_lt, Classical.not_not] at hz_s0); first | (simp [cs_unload, hz_s0]; done) | (simp [cs_unload, hz_s0]; done) | (exfalso; clear hend ; simp_all; done)))⟩ rfl dX11_unload_21
  · subst e_s0
    have h1j_s0 := cs_st_1 hs hj_s0
    have hcj_s0 : (nI j_s0).toNatClampNeg = j_s0 := nI_clamp (by omega)
    refine lv_astore_n (lv' := [(3, .ref (ad (2 + j_s0))), (0, .ref (oa 0)), (1, .int (nI j_s0)), (2, .int (k))]) hx hb dX11_unload_5 rfl hl (by decide) rfl (fun ls hl => ?_)
    refine lv_aload_n hx hb dX11_unload_6 rfl (lv_at hl 0 rfl) ?_
    refine lv_ifnull hx hb dX11_unload_7 ?_
    refine lv_iload_n hx hb dX11_unload_10 rfl (lv_at hl 3 rfl) ?_
    refine lv_if_eq (tgt := 22) hx hb dX11_unload_11 (by decide) (fun c_11 => ?_) (fun c_11 => ?_)
    · have hoff : k = 0 ∨ k = 1 := Or.inl c_11
      refine lv_aload_n hx hb dX11_unload_22 rfl (lv_at hl 0 rfl) ?_
      refine mk_get X w hm hs hin hj_s0 6 (by decide) (List.mem_of_getElem? (i := 2) rfl) (Or.inl rfl) rfl dX11_unload_23 ?_
      refine lv_iload_n hx hb dX11_unload_26 rfl (lv_at hl 3 rfl) ?_
      refine lv_iconst (v := 1) hx hb dX11_unload_27 (by decide) ?_
      refine lv_icmp_ne (tgt := 35) hx hb dX11_unload_28 (by decide) (fun c_28 => ?_) (fun c_28 => ?_)
      · refine lv_iconst (v := 0) hx hb dX11_unload_35 (by decide) ?_
        refine lv_icmp_ne (tgt := 42) hx hb dX11_unload_36 (by decide) (fun c_36 => ?_) (fun c_36 => ?_)
        · refine lv_aload_n hx hb dX11_unload_42 rfl (lv_at hl 1 rfl) ?_
          refine lv_iconst (v := 3) hx hb dX11_unload_43 (by decide) ?_
          refine lv_iload_n hx hb dX11_unload_44 rfl (lv_at hl 2 rfl) ?_
          refine lv_iconst (v := 1) hx hb dX11_unload_45 (by decide) ?_
          refine lv_iload_n hx hb dX11_unload_46 rfl (lv_at hl 3 rfl) ?_
          refine lv_isub hx hb dX11_unload_47 ?_
          refine lv_iload_n hx hb dX11_unload_48 rfl (lv_at hl 3 rfl) ?_
          refine hg_vvF (As := [.int (3), .int (nI j_s0), .int ((1 - k)), .int (k)]) (rest := []) X w (c_X11_act l D b0 L f oa C im mk ad n g hm hs ho a ha hCa 3 (nI j_s0) (1 - k) k) (cwV 4 hts gX11_unload_X11_act rfl rfl rfl hdX11_act ⟨Nat.le_of_ble_eq_true rfl, Nat.le_of_ble_eq_true rfl⟩) (ho.1 0 (by decide)).1 (ow_at ho (k := 0) (by decide)) rfl rfl rfl hl.1 rfl (Nat.le_of_ble_eq_true rfl) dX11_unload_49 ⟨Nat.zero_le _, Nat.zero_le _⟩ (fun H locs w => ?_)
          rw [mk_pm_w3 hn6 hj_s0 hoff] at w
          refine lv_aload_n hx hb dX11_unload_52 rfl (lv_at hl 0 rfl) ?_
          refine hg_back (rest := []) (post := fun x u => x = hs_weight (va_up g (44 + j_s0) k) j_s0 ∧ u = (L, mk_F D (ob_F D f oa (cs_log C a 3 (nI j_s0) (1 - k)) mk im) mk ad n (va_up g (44 + j_s0) k))) w (by
            rcases (show mk_sr (va_up g (44 + j_s0) k) n from (mk_sr_off (by omega) hoff hs)).2.2.1 j_s0 hj_s0 with hk | hk | hk | hk | hk
            · exact mk_runU (As := []) (C := RX7) (ci := 5) (fs := mk_st (va_up g (44 + j_s0) k) j_s0) X w (c_X6_weight l D b0 L (ob_F D f oa (cs_log C a 3 (nI j_s0) (1 - k)) mk im) mk ad n (va_up g (44 + j_s0) k) hm (mk_sr_off (by omega) hoff hs) j_s0 hj_s0) (va_cwU 0 hts gX11_unload_X6_weight_u167X7 rfl rfl rfl rfl (by decide +kernel) ⟨Nat.le_of_ble_eq_true rfl, Nat.le_of_ble_eq_true rfl⟩) (hm.2.1 (2 + j_s0) (by omega)).1 ((mk_atS hm hj_s0).trans (by rw [hk]; first | done | rfl)) rfl rfl rfl hl.1 rfl (Nat.le_of_ble_eq_true rfl) dX11_unload_53 ⟨Nat.zero_le _, Nat.zero_le _⟩
            · exact mk_runU (As := []) (C := RX2) (ci := 1) (fs := mk_st (va_up g (44 + j_s0) k) j_s0) X w (c_X6_weight l D b0 L (ob_F D f oa (cs_log C a 3 (nI j_s0) (1 - k)) mk im) mk ad n (va_up g (44 + j_s0) k) hm (mk_sr_off (by omega) hoff hs) j_s0 hj_s0) (va_cwU 0 hts gX11_unload_X6_weight_u167X2 rfl rfl rfl rfl (by decide +kernel) ⟨Nat.le_of_ble_eq_true rfl, Nat.le_of_ble_eq_true rfl⟩) (hm.2.1 (2 + j_s0) (by omega)).1 ((mk_atS hm hj_s0).trans (by rw [hk]; first | done | rfl)) rfl rfl rfl hl.1 rfl (Nat.le_of_ble_eq_true rfl) dX11_unload_53 ⟨Nat.zero_le _, Nat.zero_le _⟩
            · exact mk_runU (As := []) (C := RX0) (ci := 0) (fs := mk_st (va_up g (44 + j_s0) k) j_s0) X w (c_X6_weight l D b0 L (ob_F D f oa (cs_log C a 3 (nI j_s0) (1 - k)) mk im) mk ad n (va_up g (44 + j_s0) k) hm (mk_sr_off (by omega) hoff hs) j_s0 hj_s0) (va_cwU 0 hts gX11_unload_X6_weight_u167X0 rfl rfl rfl rfl (by decide +kernel) ⟨Nat.le_of_ble_eq_true rfl, Nat.le_of_ble_eq_true rfl⟩) (hm.2.1 (2 + j_s0) (by omega)).1 ((mk_atS hm hj_s0).trans (by rw [hk]; first | done | rfl)) rfl rfl rfl hl.1 rfl (Nat.le_of_ble_eq_true rfl) dX11_unload_53 ⟨Nat.zero_le _, Nat.zero_le _⟩
            · exact mk_runU (As := []) (C := RX4) (ci := 3) (fs := mk_st (va_up g (44 + j_s0) k) j_s0) X w (c_X6_weight l D b0 L (ob_F D f oa (cs_log C a 3 (nI j_s0) (1 - k)) mk im) mk ad n (va_up g (44 + j_s0) k) hm (mk_sr_off (by omega) hoff hs) j_s0 hj_s0) (va_cwU 0 hts gX11_unload_X6_weight_u167X4 rfl rfl rfl rfl (by decide +kernel) ⟨Nat.le_of_ble_eq_true rfl, Nat.le_of_ble_eq_true rfl⟩) (hm.2.1 (2 + j_s0) (by omega)).1 ((mk_atS hm hj_s0).trans (by rw [hk]; first | done | rfl)) rfl rfl rfl hl.1 rfl (Nat.le_of_ble_eq_true rfl) dX11_unload_53 ⟨Nat.zero_le _, Nat.zero_le _⟩
            · exact mk_runU (As := []) (C := RX10) (ci := 8) (fs := mk_st (va_up g (44 + j_s0) k) j_s0) X w (c_X6_weight l D b0 L (ob_F D f oa (cs_log C a 3 (nI j_s0) (1 - k)) mk im) mk ad n (va_up g (44 + j_s0) k) hm (mk_sr_off (by omega) hoff hs) j_s0 hj_s0) (va_cwU 0 hts gX11_unload_X6_weight_u167X10 rfl rfl rfl rfl (by decide +kernel) ⟨Nat.le_of_ble_eq_true rfl, Nat.le_of_ble_eq_true rfl⟩) (hm.2.1 (2 + j_s0) (by omega)).1 ((mk_atS hm hj_s0).trans (by rw [hk]; first | done | rfl)) rfl rfl rfl hl.1 rfl (Nat.le_of_ble_eq_true rfl) dX11_unload_53 ⟨Nat.zero_le _, Nat.zero_le _⟩) (fun r0 u0 H locs hp w => ?_)
          obtain ⟨rfl, rfl⟩ := hp
          have w : hg_W D b0 L (mk_F D (ob_F D f oa (cs_log C a 3 (nI j_s0) (1 - k)) mk im) mk ad n (va_up g (44 + j_s0) k)) s.heap H locs := w
          exact hend H locs (hs_weight (va_up g (44 + j_s0) k) j_s0) (L, ob_W D f oa (cs_log C a 3 (nI j_s0) (1 - k)) mk im mk ad n (va_up g (44 + j_s0) k)) _ ls w ⟨(by (try simp only [lg_cmp_le, lg_cmp_ge, lg_cmp_lt, lg_cmp_gt, hs_if10, ← Int32.not_lt, ← Int64.not_lt, Classical.not_not] at c_11 c_28 c_36); first | (simp [cs_unload, c_11, c_28, c_36, h1j_s0, hcj_s0]; done) | (simp [cs_unload, eq_true c_11, c_28, c_36, h1j_s0, hcj_s0]; done) | (exfalso; clear hend ; simp_all; done)), (ob_eq (by (try simp only [lg_cmp_le, lg_cmp_ge, lg_cmp_lt, lg_cmp_gt, hs_if10, ← Int32.not_lt, ← Int64.not_lt, Classical.not_not] at c_11 c_28 c_36); first | (simp [cs_unload, c_11, c_28, c_36, h1j_s0, hcj_s0]; done) | (simp [cs_unload, eq_true c_11, c_28, c_36, h1j_s0, hcj_s0]; done) | (exfalso; clear hend ; simp_all; done)) (by (try simp only [lg_cmp_le, lg_cmp_ge, lg_cmp_lt, lg_cmp_gt, hs_if10, ← Int32.not_lt, ← Int64.not_lt, Classical.not_not] at c_11 c_28 c_36); first | (simp [cs_unload, c_11, c_28, c_36, h1j_s0, hcj_s0]; done) | (simp [cs_unload, eq_true c_11, c_28, c_36, h1j_s0, hcj_s0]; done) | (exfalso; clear hend ; simp_all; done)))⟩ rfl dX11_unload_56
        · refine lv_ldc (v := (-1000002)) hx hb hown (hts _ (List.mem_of_getElem? (i := 3) rfl)) dX11_unload_39 ?_
          exact hend H locs ((-1000002)) (L, ob_W D f oa C mk im mk ad n g) _ ls w ⟨(by (try simp only [lg_cmp_le, lg_cmp_ge, lg_cmp_lt, lg_cmp_gt, hs_if10, ← Int32.not_lt, ← Int64.not_lt, Classical.not_not] at c_11 c_28 c_36); first | (simp [cs_unload, c_11, c_28, c_36, h1j_s0, hcj_s0]; done) | (simp [cs_unload, eq_true c_11, c_28, eq_true c_36, h1j_s0, hcj_s0]; done) | (exfalso; clear hend ; simp_all; done)), (ob_eq (by (try simp only [lg_cmp_le, lg_cmp_ge, lg_cmp_lt, lg_cmp_gt, hs_if10, ← Int32.not_lt, ← Int64.not_lt, Classical.not_not] at c_11 c_28 c_36); first | (simp [cs_unload, c_11, c_28, c_36, h1j_s0, hcj_s0]; done) | (simp [cs_unload, eq_true c_11, c_28, eq_true c_36, h1j_s0, hcj_s0]; done) | (exfalso; clear hend ; simp_all; done)) (by (try simp only [lg_cmp_le, lg_cmp_ge, lg_cmp_lt, lg_cmp_gt, hs_if10, ← Int32.not_lt, ← Int64.not_lt, Classical.not_not] at c_11 c_28 c_36); first | (simp [cs_unload, c_11, c_28, c_36, h1j_s0, hcj_s0]; done) | (simp [cs_unload, eq_true c_11, c_28, eq_true c_36, h1j_s0, hcj_s0]; done) | (exfalso; clear hend ; simp_all; done)))⟩ rfl dX11_unload_41
      · refine lv_iconst (v := 1) hx hb dX11_unload_31 (by decide) ?_
        refine lv_goto (tgt := 36) hx hb dX11_unload_32 (by decide) ?_
        refine lv_icmp_ne (tgt := 42) hx hb dX11_unload_36 (by decide) (fun c_36 => ?_) (fun c_36 => ?_)
        · refine lv_aload_n hx hb dX11_unload_42 rfl (lv_at hl 1 rfl) ?_
          refine lv_iconst (v := 3) hx hb dX11_unload_43 (by decide) ?_
          refine lv_iload_n hx hb dX11_unload_44 rfl (lv_at hl 2 rfl) ?_
          refine lv_iconst (v := 1) hx hb dX11_unload_45 (by decide) ?_
          refine lv_iload_n hx hb dX11_unload_46 rfl (lv_at hl 3 rfl) ?_
          refine lv_isub hx hb dX11_unload_47 ?_
          refine lv_iload_n hx hb dX11_unload_48 rfl (lv_at hl 3 rfl) ?_
          refine hg_vvF (As := [.int (3), .int (nI j_s0), .int ((1 - k)), .int (k)]) (rest := []) X w (c_X11_act l D b0 L f oa C im mk ad n g hm hs ho a ha hCa 3 (nI j_s0) (1 - k) k) (cwV 4 hts gX11_unload_X11_act rfl rfl rfl hdX11_act ⟨Nat.le_of_ble_eq_true rfl, Nat.le_of_ble_eq_true rfl⟩) (ho.1 0 (by decide)).1 (ow_at ho (k := 0) (by decide)) rfl rfl rfl hl.1 rfl (Nat.le_of_ble_eq_true rfl) dX11_unload_49 ⟨Nat.zero_le _, Nat.zero_le _⟩ (fun H locs w => ?_)
          rw [mk_pm_w3 hn6 hj_s0 hoff] at w
          refine lv_aload_n hx hb dX11_unload_52 rfl (lv_at hl 0 rfl) ?_
          refine hg_back (rest := []) (post := fun x u => x = hs_weight (va_up g (44 + j_s0) k) j_s0 ∧ u = (L, mk_F D (ob_F D f oa (cs_log C a 3 (nI j_s0) (1 - k)) mk im) mk ad n (va_up g (44 + j_s0) k))) w (by
            rcases (show mk_sr (va_up g (44 + j_s0) k) n from (mk_sr_off (by omega) hoff hs)).2.2.1 j_s0 hj_s0 with hk | hk | hk | hk | hk
            · exact mk_runU (As := []) (C := RX7) (ci := 5) (fs := mk_st (va_up g (44 + j_s0) k) j_s0) X w (c_X6_weight l D b0 L (ob_F D f oa (cs_log C a 3 (nI j_s0) (1 - k)) mk im) mk ad n (va_up g (44 + j_s0) k) hm (mk_sr_off (by omega) hoff hs) j_s0 hj_s0) (va_cwU 0 hts gX11_unload_X6_weight_u167X7 rfl rfl rfl rfl (by decide +kernel) ⟨Nat.le_of_ble_eq_true rfl, Nat.le_of_ble_eq_true rfl⟩) (hm.2.1 (2 + j_s0) (by omega)).1 ((mk_atS hm hj_s0).trans (by rw [hk]; first | done | rfl)) rfl rfl rfl hl.1 rfl (Nat.le_of_ble_eq_true rfl) dX11_unload_53 ⟨Nat.zero_le _, Nat.zero_le _⟩
            · exact mk_runU (As := []) (C := RX2) (ci := 1) (fs := mk_st (va_up g (44 + j_s0) k) j_s0) X w (c_X6_weight l D b0 L (ob_F D f oa (cs_log C a 3 (nI j_s0) (1 - k)) mk im) mk ad n (va_up g (44 + j_s0) k) hm (mk_sr_off (by omega) hoff hs) j_s0 hj_s0) (va_cwU 0 hts gX11_unload_X6_weight_u167X2 rfl rfl rfl rfl (by decide +kernel) ⟨Nat.le_of_ble_eq_true rfl, Nat.le_of_ble_eq_true rfl⟩) (hm.2.1 (2 + j_s0) (by omega)).1 ((mk_atS hm hj_s0).trans (by rw [hk]; first | done | rfl)) rfl rfl rfl hl.1 rfl (Nat.le_of_ble_eq_true rfl) dX11_unload_53 ⟨Nat.zero_le _, Nat.zero_le _⟩
            · exact mk_runU (As := []) (C := RX0) (ci := 0) (fs := mk_st (va_up g (44 + j_s0) k) j_s0) X w (c_X6_weight l D b0 L (ob_F D f oa (cs_log C a 3 (nI j_s0) (1 - k)) mk im) mk ad n (va_up g (44 + j_s0) k) hm (mk_sr_off (by omega) hoff hs) j_s0 hj_s0) (va_cwU 0 hts gX11_unload_X6_weight_u167X0 rfl rfl rfl rfl (by decide +kernel) ⟨Nat.le_of_ble_eq_true rfl, Nat.le_of_ble_eq_true rfl⟩) (hm.2.1 (2 + j_s0) (by omega)).1 ((mk_atS hm hj_s0).trans (by rw [hk]; first | done | rfl)) rfl rfl rfl hl.1 rfl (Nat.le_of_ble_eq_true rfl) dX11_unload_53 ⟨Nat.zero_le _, Nat.zero_le _⟩
            · exact mk_runU (As := []) (C := RX4) (ci := 3) (fs := mk_st (va_up g (44 + j_s0) k) j_s0) X w (c_X6_weight l D b0 L (ob_F D f oa (cs_log C a 3 (nI j_s0) (1 - k)) mk im) mk ad n (va_up g (44 + j_s0) k) hm (mk_sr_off (by omega) hoff hs) j_s0 hj_s0) (va_cwU 0 hts gX11_unload_X6_weight_u167X4 rfl rfl rfl rfl (by decide +kernel) ⟨Nat.le_of_ble_eq_true rfl, Nat.le_of_ble_eq_true rfl⟩) (hm.2.1 (2 + j_s0) (by omega)).1 ((mk_atS hm hj_s0).trans (by rw [hk]; first | done | rfl)) rfl rfl rfl hl.1 rfl (Nat.le_of_ble_eq_true rfl) dX11_unload_53 ⟨Nat.zero_le _, Nat.zero_le _⟩
            · exact mk_runU (As := []) (C := RX10) (ci := 8) (fs := mk_st (va_up g (44 + j_s0) k) j_s0) X w (c_X6_weight l D b0 L (ob_F D f oa (cs_log C a 3 (nI j_s0) (1 - k)) mk im) mk ad n (va_up g (44 + j_s0) k) hm (mk_sr_off (by omega) hoff hs) j_s0 hj_s0) (va_cwU 0 hts gX11_unload_X6_weight_u167X10 rfl rfl rfl rfl (by decide +kernel) ⟨Nat.le_of_ble_eq_true rfl, Nat.le_of_ble_eq_true rfl⟩) (hm.2.1 (2 + j_s0) (by omega)).1 ((mk_atS hm hj_s0).trans (by rw [hk]; first | done | rfl)) rfl rfl rfl hl.1 rfl (Nat.le_of_ble_eq_true rfl) dX11_unload_53 ⟨Nat.zero_le _, Nat.zero_le _⟩) (fun r0 u0 H locs hp w => ?_)
          obtain ⟨rfl, rfl⟩ := hp
          have w : hg_W D b0 L (mk_F D (ob_F D f oa (cs_log C a 3 (nI j_s0) (1 - k)) mk im) mk ad n (va_up g (44 + j_s0) k)) s.heap H locs := w
          exact hend H locs (hs_weight (va_up g (44 + j_s0) k) j_s0) (L, ob_W D f oa (cs_log C a 3 (nI j_s0) (1 - k)) mk im mk ad n (va_up g (44 + j_s0) k)) _ ls w ⟨(by (try simp only [lg_cmp_le, lg_cmp_ge, lg_cmp_lt, lg_cmp_gt, hs_if10, ← Int32.not_lt, ← Int64.not_lt, Classical.not_not] at c_11 c_28 c_36); first | (simp [cs_unload, c_11, c_28, c_36, h1j_s0, hcj_s0]; done) | (simp [cs_unload, eq_true c_11, eq_true c_28, c_36, h1j_s0, hcj_s0]; done) | (exfalso; clear hend ; simp_all; done)), (ob_eq (by (try simp only [lg_cmp_le, lg_cmp_ge, lg_cmp_lt, lg_cmp_gt, hs_if10, ← Int32.not_lt, ← Int64.not_lt, Classical.not_not] at c_11 c_28 c_36); first | (simp [cs_unload, c_11, c_28, c_36, h1j_s0, hcj_s0]; done) | (simp [cs_unload, eq_true c_11, eq_true c_28, c_36, h1j_s0, hcj_s0]; done) | (exfalso; clear hend ; simp_all; done)) (by (try simp only [lg_cmp_le, lg_cmp_ge, lg_cmp_lt, lg_cmp_gt, hs_if10, ← Int32.not_lt, ← Int64.not_lt, Classical.not_not] at c_11 c_28 c_36); first | (simp [cs_unload, c_11, c_28, c_36, h1j_s0, hcj_s0]; done) | (simp [cs_unload, eq_true c_11, eq_true c_28, c_36, h1j_s0, hcj_s0]; done) | (exfalso; clear hend ; simp_all; done)))⟩ rfl dX11_unload_56
        · refine lv_ldc (v := (-1000002)) hx hb hown (hts _ (List.mem_of_getElem? (i := 3) rfl)) dX11_unload_39 ?_
          exact hend H locs ((-1000002)) (L, ob_W D f oa C mk im mk ad n g) _ ls w ⟨(by (try simp only [lg_cmp_le, lg_cmp_ge, lg_cmp_lt, lg_cmp_gt, hs_if10, ← Int32.not_lt, ← Int64.not_lt, Classical.not_not] at c_11 c_28 c_36); first | (simp [cs_unload, c_11, c_28, c_36, h1j_s0, hcj_s0]; done) | (simp [cs_unload, eq_true c_11, eq_true c_28, eq_true c_36, h1j_s0, hcj_s0]; done) | (exfalso; clear hend ; simp_all; done)), (ob_eq (by (try simp only [lg_cmp_le, lg_cmp_ge, lg_cmp_lt, lg_cmp_gt, hs_if10, ← Int32.not_lt, ← Int64.not_lt, Classical.not_not] at c_11 c_28 c_36); first | (simp [cs_unload, c_11, c_28, c_36, h1j_s0, hcj_s0]; done) | (simp [cs_unload, eq_true c_11, eq_true c_28, eq_true c_36, h1j_s0, hcj_s0]; done) | (exfalso; clear hend ; simp_all; done)) (by (try simp only [lg_cmp_le, lg_cmp_ge, lg_cmp_lt, lg_cmp_gt, hs_if10, ← Int32.not_lt, ← Int64.not_lt, Classical.not_not] at c_11 c_28 c_36); first | (simp [cs_unload, c_11, c_28, c_36, h1j_s0, hcj_s0]; done) | (simp [cs_unload, eq_true c_11, eq_true c_28, eq_true c_36, h1j_s0, hcj_s0]; done) | (exfalso; clear hend ; simp_all; done)))⟩ rfl dX11_unload_41
    · refine lv_iload_n hx hb dX11_unload_14 rfl (lv_at hl 3 rfl) ?_
      refine lv_iconst (v := 1) hx hb dX11_unload_15 (by decide) ?_
      refine lv_icmp_eq (tgt := 22) hx hb dX11_unload_16 (by decide) (fun c_16 => ?_) (fun c_16 => ?_)
      · have hoff : k = 0 ∨ k = 1 := Or.inr c_16
        refine lv_aload_n hx hb dX11_unload_22 rfl (lv_at hl 0 rfl) ?_
        refine mk_get X w hm hs hin hj_s0 6 (by decide) (List.mem_of_getElem? (i := 2) rfl) (Or.inl rfl) rfl dX11_unload_23 ?_
        refine lv_iload_n hx hb dX11_unload_26 rfl (lv_at hl 3 rfl) ?_
        refine lv_iconst (v := 1) hx hb dX11_unload_27 (by decide) ?_
        refine lv_icmp_ne (tgt := 35) hx hb dX11_unload_28 (by decide) (fun c_28 => ?_) (fun c_28 => ?_)
        · refine lv_iconst (v := 0) hx hb dX11_unload_35 (by decide) ?_
          refine lv_icmp_ne (tgt := 42) hx hb dX11_unload_36 (by decide) (fun c_36 => ?_) (fun c_36 => ?_)
          · refine lv_aload_n hx hb dX11_unload_42 rfl (lv_at hl 1 rfl) ?_
            refine lv_iconst (v := 3) hx hb dX11_unload_43 (by decide) ?_
            refine lv_iload_n hx hb dX11_unload_44 rfl (lv_at hl 2 rfl) ?_
            refine lv_iconst (v := 1) hx hb dX11_unload_45 (by decide) ?_
            refine lv_iload_n hx hb dX11_unload_46 rfl (lv_at hl 3 rfl) ?_
            refine lv_isub hx hb dX11_unload_47 ?_
            refine lv_iload_n hx hb dX11_unload_48 rfl (lv_at hl 3 rfl) ?_
            refine hg_vvF (As := [.int (3), .int (nI j_s0), .int ((1 - k)), .int (k)]) (rest := []) X w (c_X11_act l D b0 L f oa C im mk ad n g hm hs ho a ha hCa 3 (nI j_s0) (1 - k) k) (cwV 4 hts gX11_unload_X11_act rfl rfl rfl hdX11_act ⟨Nat.le_of_ble_eq_true rfl, Nat.le_of_ble_eq_true rfl⟩) (ho.1 0 (by decide)).1 (ow_at ho (k := 0) (by decide)) rfl rfl rfl hl.1 rfl (Nat.le_of_ble_eq_true rfl) dX11_unload_49 ⟨Nat.zero_le _, Nat.zero_le _⟩ (fun H locs w => ?_)
            rw [mk_pm_w3 hn6 hj_s0 hoff] at w
            refine lv_aload_n hx hb dX11_unload_52 rfl (lv_at hl 0 rfl) ?_
            refine hg_back (rest := []) (post := fun x u => x = hs_weight (va_up g (44 + j_s0) k) j_s0 ∧ u = (L, mk_F D (ob_F D f oa (cs_log C a 3 (nI j_s0) (1 - k)) mk im) mk ad n (va_up g (44 + j_s0) k))) w (by
              rcases (show mk_sr (va_up g (44 + j_s0) k) n from (mk_sr_off (by omega) hoff hs)).2.2.1 j_s0 hj_s0 with hk | hk | hk | hk | hk
              · exact mk_runU (As := []) (C := RX7) (ci := 5) (fs := mk_st (va_up g (44 + j_s0) k) j_s0) X w (c_X6_weight l D b0 L (ob_F D f oa (cs_log C a 3 (nI j_s0) (1 - k)) mk im) mk ad n (va_up g (44 + j_s0) k) hm (mk_sr_off (by omega) hoff hs) j_s0 hj_s0) (va_cwU 0 hts gX11_unload_X6_weight_u167X7 rfl rfl rfl rfl (by decide +kernel) ⟨Nat.le_of_ble_eq_true rfl, Nat.le_of_ble_eq_true rfl⟩) (hm.2.1 (2 + j_s0) (by omega)).1 ((mk_atS hm hj_s0).trans (by rw [hk]; first | done | rfl)) rfl rfl rfl hl.1 rfl (Nat.le_of_ble_eq_true rfl) dX11_unload_53 ⟨Nat.zero_le _, Nat.zero_le _⟩
              · exact mk_runU (As := []) (C := RX2) (ci := 1) (fs := mk_st (va_up g (44 + j_s0) k) j_s0) X w (c_X6_weight l D b0 L (ob_F D f oa (cs_log C a 3 (nI j_s0) (1 - k)) mk im) mk ad n (va_up g (44 + j_s0) k) hm (mk_sr_off (by omega) hoff hs) j_s0 hj_s0) (va_cwU 0 hts gX11_unload_X6_weight_u167X2 rfl rfl rfl rfl (by decide +kernel) ⟨Nat.le_of_ble_eq_true rfl, Nat.le_of_ble_eq_true rfl⟩) (hm.2.1 (2 + j_s0) (by omega)).1 ((mk_atS hm hj_s0).trans (by rw [hk]; first | done | rfl)) rfl rfl rfl hl.1 rfl (Nat.le_of_ble_eq_true rfl) dX11_unload_53 ⟨Nat.zero_le _, Nat.zero_le _⟩
              · exact mk_runU (As := []) (C := RX0) (ci := 0) (fs := mk_st (va_up g (44 + j_s0) k) j_s0) X w (c_X6_weight l D b0 L (ob_F D f oa (cs_log C a 3 (nI j_s0) (1 - k)) mk im) mk ad n (va_up g (44 + j_s0) k) hm (mk_sr_off (by omega) hoff hs) j_s0 hj_s0) (va_cwU 0 hts gX11_unload_X6_weight_u167X0 rfl rfl rfl rfl (by decide +kernel) ⟨Nat.le_of_ble_eq_true rfl, Nat.le_of_ble_eq_true rfl⟩) (hm.2.1 (2 + j_s0) (by omega)).1 ((mk_atS hm hj_s0).trans (by rw [hk]; first | done | rfl)) rfl rfl rfl hl.1 rfl (Nat.le_of_ble_eq_true rfl) dX11_unload_53 ⟨Nat.zero_le _, Nat.zero_le _⟩
              · exact mk_runU (As := []) (C := RX4) (ci := 3) (fs := mk_st (va_up g (44 + j_s0) k) j_s0) X w (c_X6_weight l D b0 L (ob_F D f oa (cs_log C a 3 (nI j_s0) (1 - k)) mk im) mk ad n (va_up g (44 + j_s0) k) hm (mk_sr_off (by omega) hoff hs) j_s0 hj_s0) (va_cwU 0 hts gX11_unload_X6_weight_u167X4 rfl rfl rfl rfl (by decide +kernel) ⟨Nat.le_of_ble_eq_true rfl, Nat.le_of_ble_eq_true rfl⟩) (hm.2.1 (2 + j_s0) (by omega)).1 ((mk_atS hm hj_s0).trans (by rw [hk]; first | done | rfl)) rfl rfl rfl hl.1 rfl (Nat.le_of_ble_eq_true rfl) dX11_unload_53 ⟨Nat.zero_le _, Nat.zero_le _⟩
              · exact mk_runU (As := []) (C := RX10) (ci := 8) (fs := mk_st (va_up g (44 + j_s0) k) j_s0) X w (c_X6_weight l D b0 L (ob_F D f oa (cs_log C a 3 (nI j_s0) (1 - k)) mk im) mk ad n (va_up g (44 + j_s0) k) hm (mk_sr_off (by omega) hoff hs) j_s0 hj_s0) (va_cwU 0 hts gX11_unload_X6_weight_u167X10 rfl rfl rfl rfl (by decide +kernel) ⟨Nat.le_of_ble_eq_true rfl, Nat.le_of_ble_eq_true rfl⟩) (hm.2.1 (2 + j_s0) (by omega)).1 ((mk_atS hm hj_s0).trans (by rw [hk]; first | done | rfl)) rfl rfl rfl hl.1 rfl (Nat.le_of_ble_eq_true rfl) dX11_unload_53 ⟨Nat.zero_le _, Nat.zero_le _⟩) (fun r0 u0 H locs hp w => ?_)
            obtain ⟨rfl, rfl⟩ := hp
            have w : hg_W D b0 L (mk_F D (ob_F D f oa (cs_log C a 3 (nI j_s0) (1 - k)) mk im) mk ad n (va_up g (44 + j_s0) k)) s.heap H locs := w
            exact hend H locs (hs_weight (va_up g (44 + j_s0) k) j_s0) (L, ob_W D f oa (cs_log C a 3 (nI j_s0) (1 - k)) mk im mk ad n (va_up g (44 + j_s0) k)) _ ls w ⟨(by (try simp only [lg_cmp_le, lg_cmp_ge, lg_cmp_lt, lg_cmp_gt, hs_if10, ← Int32.not_lt, ← Int64.not_lt, Classical.not_not] at c_11 c_16 c_28 c_36); first | (simp [cs_unload, c_11, c_16, c_28, c_36, h1j_s0, hcj_s0]; done) | (simp [cs_unload, c_11, eq_true c_16, c_28, c_36, h1j_s0, hcj_s0]; done) | (exfalso; clear hend ; simp_all; done)), (ob_eq (by (try simp only [lg_cmp_le, lg_cmp_ge, lg_cmp_lt, lg_cmp_gt, hs_if10, ← Int32.not_lt, ← Int64.not_lt, Classical.not_not] at c_11 c_16 c_28 c_36); first | (simp [cs_unload, c_11, c_16, c_28, c_36, h1j_s0, hcj_s0]; done) | (simp [cs_unload, c_11, eq_true c_16, c_28, c_36, h1j_s0, hcj_s0]; done) | (exfalso; clear hend ; simp_all; done)) (by (try simp only [lg_cmp_le, lg_cmp_ge, lg_cmp_lt, lg_cmp_gt, hs_if10, ← Int32.not_lt, ← Int64.not_lt, Classical.not_not] at c_11 c_16 c_28 c_36); first | (simp [cs_unload, c_11, c_16, c_28, c_36, h1j_s0, hcj_s0]; done) | (simp [cs_unload, c_11, eq_true c_16, c_28, c_36, h1j_s0, hcj_s0]; done) | (exfalso; clear hend ; simp_all; done)))⟩ rfl dX11_unload_56
          · refine lv_ldc (v := (-1000002)) hx hb hown (hts _ (List.mem_of_getElem? (i := 3) rfl)) dX11_unload_39 ?_
            exact hend H locs ((-1000002)) (L, ob_W D f oa C mk im mk ad n g) _ ls w ⟨(by (try simp only [lg_cmp_le, lg_cmp_ge, lg_cmp_lt, lg_cmp_gt, hs_if10, ← Int32.not_lt, ← Int64.not_lt, Classical.not_not] at c_11 c_16 c_28 c_36); first | (simp [cs_unload, c_11, c_16, c_28, c_36, h1j_s0, hcj_s0]; done) | (simp [cs_unload, c_11, eq_true c_16, c_28, eq_true c_36, h1j_s0, hcj_s0]; done) | (exfalso; clear hend ; simp_all; done)), (ob_eq (by (try simp only [lg_cmp_le, lg_cmp_ge, lg_cmp_lt, lg_cmp_gt, hs_if10, ← Int32.not_lt, ← Int64.not_lt, Classical.not_not] at c_11 c_16 c_28 c_36); first | (simp [cs_unload, c_11, c_16, c_28, c_36, h1j_s0, hcj_s0]; done) | (simp [cs_unload, c_11, eq_true c_16, c_28, eq_true c_36, h1j_s0, hcj_s0]; done) | (exfalso; clear hend ; simp_all; done)) (by (try simp only [lg_cmp_le, lg_cmp_ge, lg_cmp_lt, lg_cmp_gt, hs_if10, ← Int32.not_lt, ← Int64.not_lt, Classical.not_not] at c_11 c_16 c_28 c_36); first | (simp [cs_unload, c_11, c_16, c_28, c_36, h1j_s0, hcj_s0]; done) | (simp [cs_unload, c_11, eq_true c_16, c_28, eq_true c_36, h1j_s0, hcj_s0]; done) | (exfalso; clear hend ; simp_all; done)))⟩ rfl dX11_unload_41
        · refine lv_iconst (v := 1) hx hb dX11_unload_31 (by decide) ?_
          refine lv_goto (tgt := 36) hx hb dX11_unload_32 (by decide) ?_
          refine lv_icmp_ne (tgt := 42) hx hb dX11_unload_36 (by decide) (fun c_36 => ?_) (fun c_36 => ?_)
          · refine lv_aload_n hx hb dX11_unload_42 rfl (lv_at hl 1 rfl) ?_
            refine lv_iconst (v := 3) hx hb dX11_unload_43 (by decide) ?_
            refine lv_iload_n hx hb dX11_unload_44 rfl (lv_at hl 2 rfl) ?_
            refine lv_iconst (v := 1) hx hb dX11_unload_45 (by decide) ?_
            refine lv_iload_n hx hb dX11_unload_46 rfl (lv_at hl 3 rfl) ?_
            refine lv_isub hx hb dX11_unload_47 ?_
            refine lv_iload_n hx hb dX11_unload_48 rfl (lv_at hl 3 rfl) ?_
            refine hg_vvF (As := [.int (3), .int (nI j_s0), .int ((1 - k)), .int (k)]) (rest := []) X w (c_X11_act l D b0 L f oa C im mk ad n g hm hs ho a ha hCa 3 (nI j_s0) (1 - k) k) (cwV 4 hts gX11_unload_X11_act rfl rfl rfl hdX11_act ⟨Nat.le_of_ble_eq_true rfl, Nat.le_of_ble_eq_true rfl⟩) (ho.1 0 (by decide)).1 (ow_at ho (k := 0) (by decide)) rfl rfl rfl hl.1 rfl (Nat.le_of_ble_eq_true rfl) dX11_unload_49 ⟨Nat.zero_le _, Nat.zero_le _⟩ (fun H locs w => ?_)
            rw [mk_pm_w3 hn6 hj_s0 hoff] at w
            refine lv_aload_n hx hb dX11_unload_52 rfl (lv_at hl 0 rfl) ?_
            refine hg_back (rest := []) (post := fun x u => x = hs_weight (va_up g (44 + j_s0) k) j_s0 ∧ u = (L, mk_F D (ob_F D f oa (cs_log C a 3 (nI j_s0) (1 - k)) mk im) mk ad n (va_up g (44 + j_s0) k))) w (by
              rcases (show mk_sr (va_up g (44 + j_s0) k) n from (mk_sr_off (by omega) hoff hs)).2.2.1 j_s0 hj_s0 with hk | hk | hk | hk | hk
              · exact mk_runU (As := []) (C := RX7) (ci := 5) (fs := mk_st (va_up g (44 + j_s0) k) j_s0) X w (c_X6_weight l D b0 L (ob_F D f oa (cs_log C a 3 (nI j_s0) (1 - k)) mk im) mk ad n (va_up g (44 + j_s0) k) hm (mk_sr_off (by omega) hoff hs) j_s0 hj_s0) (va_cwU 0 hts gX11_unload_X6_weight_u167X7 rfl rfl rfl rfl (by decide +kernel) ⟨Nat.le_of_ble_eq_true rfl, Nat.le_of_ble_eq_true rfl⟩) (hm.2.1 (2 + j_s0) (by omega)).1 ((mk_atS hm hj_s0).trans (by rw [hk]; first | done | rfl)) rfl rfl rfl hl.1 rfl (Nat.le_of_ble_eq_true rfl) dX11_unload_53 ⟨Nat.zero_le _, Nat.zero_le _⟩
              · exact mk_runU (As := []) (C := RX2) (ci := 1) (fs := mk_st (va_up g (44 + j_s0) k) j_s0) X w (c_X6_weight l D b0 L (ob_F D f oa (cs_log C a 3 (nI j_s0) (1 - k)) mk im) mk ad n (va_up g (44 + j_s0) k) hm (mk_sr_off (by omega) hoff hs) j_s0 hj_s0) (va_cwU 0 hts gX11_unload_X6_weight_u167X2 rfl rfl rfl rfl (by decide +kernel) ⟨Nat.le_of_ble_eq_true rfl, Nat.le_of_ble_eq_true rfl⟩) (hm.2.1 (2 + j_s0) (by omega)).1 ((mk_atS hm hj_s0).trans (by rw [hk]; first | done | rfl)) rfl rfl rfl hl.1 rfl (Nat.le_of_ble_eq_true rfl) dX11_unload_53 ⟨Nat.zero_le _, Nat.zero_le _⟩
              · exact mk_runU (As := []) (C := RX0) (ci := 0) (fs := mk_st (va_up g (44 + j_s0) k) j_s0) X w (c_X6_weight l D b0 L (ob_F D f oa (cs_log C a 3 (nI j_s0) (1 - k)) mk im) mk ad n (va_up g (44 + j_s0) k) hm (mk_sr_off (by omega) hoff hs) j_s0 hj_s0) (va_cwU 0 hts gX11_unload_X6_weight_u167X0 rfl rfl rfl rfl (by decide +kernel) ⟨Nat.le_of_ble_eq_true rfl, Nat.le_of_ble_eq_true rfl⟩) (hm.2.1 (2 + j_s0) (by omega)).1 ((mk_atS hm hj_s0).trans (by rw [hk]; first | done | rfl)) rfl rfl rfl hl.1 rfl (Nat.le_of_ble_eq_true rfl) dX11_unload_53 ⟨Nat.zero_le _, Nat.zero_le _⟩
              · exact mk_runU (As := []) (C := RX4) (ci := 3) (fs := mk_st (va_up g (44 + j_s0) k) j_s0) X w (c_X6_weight l D b0 L (ob_F D f oa (cs_log C a 3 (nI j_s0) (1 - k)) mk im) mk ad n (va_up g (44 + j_s0) k) hm (mk_sr_off (by omega) hoff hs) j_s0 hj_s0) (va_cwU 0 hts gX11_unload_X6_weight_u167X4 rfl rfl rfl rfl (by decide +kernel) ⟨Nat.le_of_ble_eq_true rfl, Nat.le_of_ble_eq_true rfl⟩) (hm.2.1 (2 + j_s0) (by omega)).1 ((mk_atS hm hj_s0).trans (by rw [hk]; first | done | rfl)) rfl rfl rfl hl.1 rfl (Nat.le_of_ble_eq_true rfl) dX11_unload_53 ⟨Nat.zero_le _, Nat.zero_le _⟩
              · exact mk_runU (As := []) (C := RX10) (ci := 8) (fs := mk_st (va_up g (44 + j_s0) k) j_s0) X w (c_X6_weight l D b0 L (ob_F D f oa (cs_log C a 3 (nI j_s0) (1 - k)) mk im) mk ad n (va_up g (44 + j_s0) k) hm (mk_sr_off (by omega) hoff hs) j_s0 hj_s0) (va_cwU 0 hts gX11_unload_X6_weight_u167X10 rfl rfl rfl rfl (by decide +kernel) ⟨Nat.le_of_ble_eq_true rfl, Nat.le_of_ble_eq_true rfl⟩) (hm.2.1 (2 + j_s0) (by omega)).1 ((mk_atS hm hj_s0).trans (by rw [hk]; first | done | rfl)) rfl rfl rfl hl.1 rfl (Nat.le_of_ble_eq_true rfl) dX11_unload_53 ⟨Nat.zero_le _, Nat.zero_le _⟩) (fun r0 u0 H locs hp w => ?_)
            obtain ⟨rfl, rfl⟩ := hp
            have w : hg_W D b0 L (mk_F D (ob_F D f oa (cs_log C a 3 (nI j_s0) (1 - k)) mk im) mk ad n (va_up g (44 + j_s0) k)) s.heap H locs := w
            exact hend H locs (hs_weight (va_up g (44 + j_s0) k) j_s0) (L, ob_W D f oa (cs_log C a 3 (nI j_s0) (1 - k)) mk im mk ad n (va_up g (44 + j_s0) k)) _ ls w ⟨(by (try simp only [lg_cmp_le, lg_cmp_ge, lg_cmp_lt, lg_cmp_gt, hs_if10, ← Int32.not_lt, ← Int64.not_lt, Classical.not_not] at c_11 c_16 c_28 c_36); first | (simp [cs_unload, c_11, c_16, c_28, c_36, h1j_s0, hcj_s0]; done) | (simp [cs_unload, c_11, eq_true c_16, eq_true c_28, c_36, h1j_s0, hcj_s0]; done) | (exfalso; clear hend ; simp_all; done)), (ob_eq (by (try simp only [lg_cmp_le, lg_cmp_ge, lg_cmp_lt, lg_cmp_gt, hs_if10, ← Int32.not_lt, ← Int64.not_lt, Classical.not_not] at c_11 c_16 c_28 c_36); first | (simp [cs_unload, c_11, c_16, c_28, c_36, h1j_s0, hcj_s0]; done) | (simp [cs_unload, c_11, eq_true c_16, eq_true c_28, c_36, h1j_s0, hcj_s0]; done) | (exfalso; clear hend ; simp_all; done)) (by (try simp only [lg_cmp_le, lg_cmp_ge, lg_cmp_lt, lg_cmp_gt, hs_if10, ← Int32.not_lt, ← Int64.not_lt, Classical.not_not] at c_11 c_16 c_28 c_36); first | (simp [cs_unload, c_11, c_16, c_28, c_36, h1j_s0, hcj_s0]; done) | (simp [cs_unload, c_11, eq_true c_16, eq_true c_28, c_36, h1j_s0, hcj_s0]; done) | (exfalso; clear hend ; simp_all; done)))⟩ rfl dX11_unload_56
          · refine lv_ldc (v := (-1000002)) hx hb hown (hts _ (List.mem_of_getElem? (i := 3) rfl)) dX11_unload_39 ?_
            exact hend H locs ((-1000002)) (L, ob_W D f oa C mk im mk ad n g) _ ls w ⟨(by (try simp only [lg_cmp_le, lg_cmp_ge, lg_cmp_lt, lg_cmp_gt, hs_if10, ← Int32.not_lt, ← Int64.not_lt, Classical.not_not] at c_11 c_16 c_28 c_36); first | (simp [cs_unload, c_11, c_16, c_28, c_36, h1j_s0, hcj_s0]; done) | (simp [cs_unload, c_11, eq_true c_16, eq_true c_28, eq_true c_36, h1j_s0, hcj_s0]; done) | (exfalso; clear hend ; simp_all; done)), (ob_eq (by (try simp only [lg_cmp_le, lg_cmp_ge, lg_cmp_lt, lg_cmp_gt, hs_if10, ← Int32.not_lt, ← Int64.not_lt, Classical.not_not] at c_11 c_16 c_28 c_36); first | (simp [cs_unload, c_11, c_16, c_28, c_36, h1j_s0, hcj_s0]; done) | (simp [cs_unload, c_11, eq_true c_16, eq_true c_28, eq_true c_36, h1j_s0, hcj_s0]; done) | (exfalso; clear hend ; simp_all; done)) (by (try simp only [lg_cmp_le, lg_cmp_ge, lg_cmp_lt, lg_cmp_gt, hs_if10, ← Int32.not_lt, ← Int64.not_lt, Classical.not_not] at c_11 c_16 c_28 c_36); first | (simp [cs_unload, c_11, c_16, c_28, c_36, h1j_s0, hcj_s0]; done) | (simp [cs_unload, c_11, eq_true c_16, eq_true c_28, eq_true c_36, h1j_s0, hcj_s0]; done) | (exfalso; clear hend ; simp_all; done)))⟩ rfl dX11_unload_41
      · refine lv_ldc (v := (-1000001)) hx hb hown (hts _ (List.mem_of_getElem? (i := 1) rfl)) dX11_unload_19 ?_
        exact hend H locs ((-1000001)) (L, ob_W D f oa C mk im mk ad n g) _ ls w ⟨(by (try simp only [lg_cmp_le, lg_cmp_ge, lg_cmp_lt, lg_cmp_gt, hs_if10, ← Int32.not_lt, ← Int64.not_lt, Classical.not_not] at c_11 c_16); first | (simp [cs_unload, c_11, c_16, h1j_s0, hcj_s0]; done) | (simp [cs_unload, c_11, c_16, h1j_s0, hcj_s0]; done) | (exfalso; clear hend ; simp_all; done)), (ob_eq (by (try simp only [lg_cmp_le, lg_cmp_ge, lg_cmp_lt, lg_cmp_gt, hs_if10, ← Int32.not_lt, ← Int64.not_lt, Classical.not_not] at c_11 c_16); first | (simp [cs_unload, c_11, c_16, h1j_s0, hcj_s0]; done) | (simp [cs_unload, c_11, c_16, h1j_s0, hcj_s0]; done) | (exfalso; clear hend ; simp_all; done)) (by (try simp only [lg_cmp_le, lg_cmp_ge, lg_cmp_lt, lg_cmp_gt, hs_if10, ← Int32.not_lt, ← Int64.not_lt, Classical.not_not] at c_11 c_16); first | (simp [cs_unload, c_11, c_16, h1j_s0, hcj_s0]; done) | (simp [cs_unload, c_11, c_16, h1j_s0, hcj_s0]; done) | (exfalso; clear hend ; simp_all; done)))⟩ rfl dX11_unload_21
theorem hdX11_noMarket : yX11_noMarket.cls = RX11 ∧ yX11_noMarket.cls ≠ "java/lang/invoke/MethodHandle" ∧ yX11_noMarket.cls ≠ "java/lang/invoke/VarHandle" ∧ (parseMethodDescriptor yX11_noMarket.desc).map (fun d => d.parameters.length) = some 0 := by decide +kernel
set_option maxRecDepth 100000 in
set_option maxHeartbeats 4000000 in
theorem c_X11_rain (l : Launch) (D : va_G) (b0 : Nat) (L : List Nat) (f : Nat → va_E) (oa : Nat → Nat) (C : Nat → Nat → Int32) (im : Nat → Option Nat) (mk : Nat) (ad : Nat → Nat) (n : Nat) (g : Nat → Int32) (hm : mk_ok L mk ad n) (hs : mk_sr g n) (ho : ob_ok L oa mk ad n) (a : Nat) (ha : a ≤ 24) (hCa : C 1 0 = nI a) : hg_Fi l yX11_rain wsX11_rain ({ frames := 3, cells := 0, slots := 0, locals := 70 }) D b0 L (ob_W D f oa C mk im mk ad n g) [.ref (oa 0)] ((cs_rain C g a).1) (ob_W D f oa ((cs_rain C g a).2.1) mk im mk ad n ((cs_rain C g a).2.2)) := by
  refine hg_in_i (cc := cX11_rain) (nL := 1) (by decide) rfl (Nat.le_of_ble_eq_true rfl) (fun p e s m args below meth c R Q X hR hend H locs ls w hl => ?_)
  subst hR
  obtain ⟨hx, hb, hml, hown, hts⟩ := id X.1
  have hin : mk_in wsX11_rain := ⟨fun w h => List.mem_cons_of_mem _ (List.mem_append_left _ (List.mem_append_left _ (List.mem_append_left _ (List.mem_append_left _ (List.mem_append_right _ h))))), fun w h => List.mem_cons_of_mem _ (List.mem_append_left _ (List.mem_append_left _ (List.mem_append_left _ (List.mem_append_right _ h)))), fun w h => List.mem_cons_of_mem _ (List.mem_append_left _ (List.mem_append_left _ (List.mem_append_right _ h))), fun w h => List.mem_cons_of_mem _ (List.mem_append_left _ (List.mem_append_right _ h)), fun w h => List.mem_cons_of_mem _ (List.mem_append_right _ h)⟩
  have hin3 : ∀ w ∈ wsX30, w ∈ wsX11_rain := fun w h => List.mem_cons_of_mem _ (List.mem_append_left _ (List.mem_append_left _ (List.mem_append_left _ (List.mem_append_left _ (List.mem_append_left _ (List.mem_append_right _ h))))))
  have hin11 : ∀ w ∈ wsX110, w ∈ wsX11_rain := fun w h => List.mem_cons_of_mem _ (List.mem_append_left _ (List.mem_append_left _ (List.mem_append_left _ (List.mem_append_left _ (List.mem_append_left _ (List.mem_append_left _ (List.mem_append_right _ h)))))))
  have hl : lv_has ls 1 [(0, .ref (oa 0))] := hl
  have hn6 := hs.2.1
  refine lv_aload_n hx hb dX11_rain_0 rfl (lv_at hl 0 rfl) ?_
  refine hg_viF (r := (if g 2 = 0 then 1 else 0)) (As := []) (rest := []) X w (c_X11_noMarket l D b0 L f oa C im mk ad n g hm hs ho ) (cwV 0 hts gX11_rain_X11_noMarket rfl rfl rfl hdX11_noMarket ⟨Nat.le_of_ble_eq_true rfl, Nat.le_of_ble_eq_true rfl⟩) (ho.1 0 (by decide)).1 (ow_at ho (k := 0) (by decide)) rfl rfl rfl hl.1 rfl (Nat.le_of_ble_eq_true rfl) dX11_rain_1 ⟨Nat.zero_le _, Nat.zero_le _⟩ (fun H locs w => ?_)
  refine lv_if_eq (tgt := 10) hx hb dX11_rain_4 (by decide) (fun c_4 => ?_) (fun c_4 => ?_)
  · refine lv_aload_n hx hb dX11_rain_10 rfl (lv_at hl 0 rfl) ?_
    refine ob_get X w ho 0 (by decide) (C0 := RX11) (T := TX11) (N := 12) (ci := 9) rfl hin11 rfl 9 (by decide) (List.mem_of_getElem? (i := 2) rfl) rfl rfl dX11_rain_11 ?_
    refine mk_getM X w hm hin3 1 (by decide) (List.mem_of_getElem? (i := 3) rfl) rfl dX11_rain_14 ?_
    refine lv_bipush (v := 99) hx hb dX11_rain_17 (by decide) ?_
    refine lv_icmp_lt (tgt := 25) hx hb dX11_rain_19 (by decide) (fun c_19 => ?_) (fun c_19 => ?_)
    · refine lv_aload_n hx hb dX11_rain_25 rfl (lv_at hl 0 rfl) ?_
      refine lv_iconst (v := 4) hx hb dX11_rain_26 (by decide) ?_
      refine lv_iconst (v := 0) hx hb dX11_rain_27 (by decide) ?_
      refine lv_aload_n hx hb dX11_rain_28 rfl (lv_at hl 0 rfl) ?_
      refine ob_get X w ho 0 (by decide) (C0 := RX11) (T := TX11) (N := 12) (ci := 9) rfl hin11 rfl 9 (by decide) (List.mem_of_getElem? (i := 2) rfl) rfl rfl dX11_rain_29 ?_
      refine mk_getM X w hm hin3 1 (by decide) (List.mem_of_getElem? (i := 3) rfl) rfl dX11_rain_32 ?_
      refine lv_aload_n hx hb dX11_rain_35 rfl (lv_at hl 0 rfl) ?_
      refine ob_get X w ho 0 (by decide) (C0 := RX11) (T := TX11) (N := 12) (ci := 9) rfl hin11 rfl 9 (by decide) (List.mem_of_getElem? (i := 2) rfl) rfl rfl dX11_rain_36 ?_
      refine mk_getM X w hm hin3 1 (by decide) (List.mem_of_getElem? (i := 3) rfl) rfl dX11_rain_39 ?_
      refine lv_iconst (v := 1) hx hb dX11_rain_42 (by decide) ?_
      refine lv_iadd hx hb dX11_rain_43 ?_
      refine hg_vvF (As := [.int (4), .int (0), .int (g 1), .int ((g 1 + 1))]) (rest := []) X w (c_X11_act l D b0 L f oa C im mk ad n g hm hs ho a ha hCa 4 0 (g 1) (g 1 + 1)) (cwV 4 hts gX11_rain_X11_act rfl rfl rfl hdX11_act ⟨Nat.le_of_ble_eq_true rfl, Nat.le_of_ble_eq_true rfl⟩) (ho.1 0 (by decide)).1 (ow_at ho (k := 0) (by decide)) rfl rfl rfl hl.1 rfl (Nat.le_of_ble_eq_true rfl) dX11_rain_44 ⟨Nat.zero_le _, Nat.zero_le _⟩ (fun H locs w => ?_)
      rw [mk_pm_w4] at w
      refine lv_aload_n hx hb dX11_rain_47 rfl (lv_at hl 0 rfl) ?_
      refine ob_get X w ho 0 (by decide) (C0 := RX11) (T := TX11) (N := 12) (ci := 9) rfl hin11 rfl 9 (by decide) (List.mem_of_getElem? (i := 2) rfl) rfl rfl dX11_rain_48 ?_
      refine mk_getM X w hm hin3 1 (by decide) (List.mem_of_getElem? (i := 3) rfl) rfl dX11_rain_51 ?_
      exact hend H locs ((va_up g 1 (g 1 + 1)) 1) (L, ob_W D f oa (cs_log C a 4 0 (g 1)) mk im mk ad n (va_up g 1 (g 1 + 1))) _ ls w ⟨(by (try simp only [lg_cmp_le, lg_cmp_ge, lg_cmp_lt, lg_cmp_gt, hs_if10, ← Int32.not_lt, ← Int64.not_lt, Classical.not_not] at c_4 c_19); first | (simp [cs_rain, va_up_self, c_4, c_19]; done) | (simp [cs_rain, va_up_self, eq_true c_4, c_19]; done) | (exfalso; clear hend ; simp_all; done)), (ob_eq (by (try simp only [lg_cmp_le, lg_cmp_ge, lg_cmp_lt, lg_cmp_gt, hs_if10, ← Int32.not_lt, ← Int64.not_lt, Classical.not_not] at c_4 c_19); first | (simp [cs_rain, va_up_self, c_4, c_19]; done) | (simp [cs_rain, va_up_self, eq_true c_4, c_19]; done) | (exfalso; clear hend ; simp_all; done)) (by (try simp only [lg_cmp_le, lg_cmp_ge, lg_cmp_lt, lg_cmp_gt, hs_if10, ← Int32.not_lt, ← Int64.not_lt, Classical.not_not] at c_4 c_19); first | (simp [cs_rain, va_up_self, c_4, c_19]; done) | (simp [cs_rain, va_up_self, eq_true c_4, c_19]; done) | (exfalso; clear hend ; simp_all; done)))⟩ rfl dX11_rain_54
    · refine lv_ldc (v := (-1000003)) hx hb hown (hts _ (List.mem_of_getElem? (i := 4) rfl)) dX11_rain_22 ?_
      exact hend H locs ((-1000003)) (L, ob_W D f oa C mk im mk ad n g) _ ls w ⟨(by (try simp only [lg_cmp_le, lg_cmp_ge, lg_cmp_lt, lg_cmp_gt, hs_if10, ← Int32.not_lt, ← Int64.not_lt, Classical.not_not] at c_4 c_19); first | (simp [cs_rain, va_up_self, c_4, c_19]; done) | (simp [cs_rain, va_up_self, eq_true c_4, c_19]; done) | (exfalso; clear hend ; simp_all; done)), (ob_eq (by (try simp only [lg_cmp_le, lg_cmp_ge, lg_cmp_lt, lg_cmp_gt, hs_if10, ← Int32.not_lt, ← Int64.not_lt, Classical.not_not] at c_4 c_19); first | (simp [cs_rain, va_up_self, c_4, c_19]; done) | (simp [cs_rain, va_up_self, eq_true c_4, c_19]; done) | (exfalso; clear hend ; simp_all; done)) (by (try simp only [lg_cmp_le, lg_cmp_ge, lg_cmp_lt, lg_cmp_gt, hs_if10, ← Int32.not_lt, ← Int64.not_lt, Classical.not_not] at c_4 c_19); first | (simp [cs_rain, va_up_self, c_4, c_19]; done) | (simp [cs_rain, va_up_self, eq_true c_4, c_19]; done) | (exfalso; clear hend ; simp_all; done)))⟩ rfl dX11_rain_24
  · refine lv_ldc (v := (-1000002)) hx hb hown (hts _ (List.mem_of_getElem? (i := 1) rfl)) dX11_rain_7 ?_
    exact hend H locs ((-1000002)) (L, ob_W D f oa C mk im mk ad n g) _ ls w ⟨(by (try simp only [lg_cmp_le, lg_cmp_ge, lg_cmp_lt, lg_cmp_gt, hs_if10, ← Int32.not_lt, ← Int64.not_lt, Classical.not_not] at c_4); first | (simp [cs_rain, va_up_self, c_4]; done) | (simp [cs_rain, va_up_self, c_4]; done) | (exfalso; clear hend ; simp_all; done)), (ob_eq (by (try simp only [lg_cmp_le, lg_cmp_ge, lg_cmp_lt, lg_cmp_gt, hs_if10, ← Int32.not_lt, ← Int64.not_lt, Classical.not_not] at c_4); first | (simp [cs_rain, va_up_self, c_4]; done) | (simp [cs_rain, va_up_self, c_4]; done) | (exfalso; clear hend ; simp_all; done)) (by (try simp only [lg_cmp_le, lg_cmp_ge, lg_cmp_lt, lg_cmp_gt, hs_if10, ← Int32.not_lt, ← Int64.not_lt, Classical.not_not] at c_4); first | (simp [cs_rain, va_up_self, c_4]; done) | (simp [cs_rain, va_up_self, c_4]; done) | (exfalso; clear hend ; simp_all; done)))⟩ rfl dX11_rain_9
theorem hdX11_noRope : yX11_noRope.cls = RX11 ∧ yX11_noRope.cls ≠ "java/lang/invoke/MethodHandle" ∧ yX11_noRope.cls ≠ "java/lang/invoke/VarHandle" ∧ (parseMethodDescriptor yX11_noRope.desc).map (fun d => d.parameters.length) = some 1 := by decide +kernel
set_option maxRecDepth 100000 in
set_option maxHeartbeats 4000000 in
theorem c_X11_cut (l : Launch) (D : va_G) (b0 : Nat) (L : List Nat) (f : Nat → va_E) (oa : Nat → Nat) (C : Nat → Nat → Int32) (im : Nat → Option Nat) (mk : Nat) (ad : Nat → Nat) (n : Nat) (g : Nat → Int32) (hm : mk_ok L mk ad n) (hs : mk_sr g n) (ho : ob_ok L oa mk ad n) (a : Nat) (ha : a ≤ 24) (hCa : C 1 0 = nI a) (nr : Nat) (ht : mk_t g nr) (rope : Int32) : hg_Fi l yX11_cut wsX11_cut ({ frames := 3, cells := 0, slots := 0, locals := 70 }) D b0 L (ob_W D f oa C mk im mk ad n g) [.ref (oa 0), .int (rope)] ((cs_cut C g a rope).1) (ob_W D f oa ((cs_cut C g a rope).2.1) mk im mk ad n ((cs_cut C g a rope).2.2)) := by
  refine hg_in_i (cc := cX11_cut) (nL := 3) (by decide) rfl (Nat.le_of_ble_eq_true rfl) (fun p e s m args below meth c R Q X hR hend H locs ls w hl => ?_)
  subst hR
  obtain ⟨hx, hb, hml, hown, hts⟩ := id X.1
  have hin : mk_in wsX11_cut := ⟨fun w h => List.mem_cons_of_mem _ (List.mem_append_left _ (List.mem_append_left _ (List.mem_append_left _ (List.mem_append_left _ (List.mem_append_right _ h))))), fun w h => List.mem_cons_of_mem _ (List.mem_append_left _ (List.mem_append_left _ (List.mem_append_left _ (List.mem_append_right _ h)))), fun w h => List.mem_cons_of_mem _ (List.mem_append_left _ (List.mem_append_left _ (List.mem_append_right _ h))), fun w h => List.mem_cons_of_mem _ (List.mem_append_left _ (List.mem_append_right _ h)), fun w h => List.mem_cons_of_mem _ (List.mem_append_right _ h)⟩
  have hin3 : ∀ w ∈ wsX30, w ∈ wsX11_cut := fun w h => List.mem_cons_of_mem _ (List.mem_append_left _ (List.mem_append_left _ (List.mem_append_left _ (List.mem_append_left _ (List.mem_append_left _ (List.mem_append_right _ h))))))
  have hin11 : ∀ w ∈ wsX110, w ∈ wsX11_cut := fun w h => List.mem_cons_of_mem _ (List.mem_append_left _ (List.mem_append_left _ (List.mem_append_left _ (List.mem_append_left _ (List.mem_append_left _ (List.mem_append_left _ (List.mem_append_right _ h)))))))
  have hl : lv_has ls 3 [(0, .ref (oa 0)), (1, .int (rope))] := hl
  have hn6 := hs.2.1
  refine lv_aload_n hx hb dX11_cut_0 rfl (lv_at hl 0 rfl) ?_
  refine lv_iload_n hx hb dX11_cut_1 rfl (lv_at hl 1 rfl) ?_
  refine hg_viF (r := (if hs_isRo g rope = 0 then 1 else 0)) (As := [.int (rope)]) (rest := []) X w (c_X11_noRope l D b0 L f oa C im mk ad n g hm hs ho nr ht rope) (cwV 1 hts gX11_cut_X11_noRope rfl rfl rfl hdX11_noRope ⟨Nat.le_of_ble_eq_true rfl, Nat.le_of_ble_eq_true rfl⟩) (ho.1 0 (by decide)).1 (ow_at ho (k := 0) (by decide)) rfl rfl rfl hl.1 rfl (Nat.le_of_ble_eq_true rfl) dX11_cut_2 ⟨Nat.zero_le _, Nat.zero_le _⟩ (fun H locs w => ?_)
  refine lv_if_eq (tgt := 11) hx hb dX11_cut_5 (by decide) (fun c_5 => ?_) (fun c_5 => ?_)
  · obtain ⟨r, hr, rfl⟩ := hs_ro_1 (mk_ok_of hs ht) (hs_if0 c_5)
    have hnr := ht.2.1
    have hro1 := cs_ro_1 ht hr
    have hcr : (nI r).toNatClampNeg = r := nI_clamp (by omega)
    refine lv_aload_n hx hb dX11_cut_11 rfl (lv_at hl 0 rfl) ?_
    refine ob_get X w ho 0 (by decide) (C0 := RX11) (T := TX11) (N := 12) (ci := 9) rfl hin11 rfl 9 (by decide) (List.mem_of_getElem? (i := 2) rfl) rfl rfl dX11_cut_12 ?_
    refine mk_getM X w hm hin3 4 (by decide) (List.mem_of_getElem? (i := 3) rfl) rfl dX11_cut_15 ?_
    refine lv_iload_n hx hb dX11_cut_18 rfl (lv_at hl 1 rfl) ?_
    refine mk_taut X w hm r rfl (by omega) dX11_cut_19 ?_
    refine lv_istore_n (lv' := [(2, .int (g (5 + r))), (0, .ref (oa 0)), (1, .int (nI r))]) hx hb dX11_cut_20 rfl hl (by decide) rfl (fun ls hl => ?_)
    refine lv_iload_n hx hb dX11_cut_21 rfl (lv_at hl 0 rfl) ?_
    refine lv_iconst (v := 1) hx hb dX11_cut_22 (by decide) ?_
    refine lv_icmp_gt (tgt := 29) hx hb dX11_cut_23 (by decide) (fun c_23 => ?_) (fun c_23 => ?_)
    · refine lv_aload_n hx hb dX11_cut_29 rfl (lv_at hl 1 rfl) ?_
      refine lv_iconst (v := 5) hx hb dX11_cut_30 (by decide) ?_
      refine lv_iload_n hx hb dX11_cut_31 rfl (lv_at hl 2 rfl) ?_
      refine lv_iload_n hx hb dX11_cut_32 rfl (lv_at hl 0 rfl) ?_
      refine lv_iload_n hx hb dX11_cut_33 rfl (lv_at hl 0 rfl) ?_
      refine lv_iconst (v := 1) hx hb dX11_cut_34 (by decide) ?_
      refine lv_isub hx hb dX11_cut_35 ?_
      refine hg_vvF (As := [.int (5), .int (nI r), .int (g (5 + r)), .int ((g (5 + r) - 1))]) (rest := []) X w (c_X11_act l D b0 L f oa C im mk ad n g hm hs ho a ha hCa 5 (nI r) (g (5 + r)) (g (5 + r) - 1)) (cwV 4 hts gX11_cut_X11_act rfl rfl rfl hdX11_act ⟨Nat.le_of_ble_eq_true rfl, Nat.le_of_ble_eq_true rfl⟩) (ho.1 0 (by decide)).1 (ow_at ho (k := 0) (by decide)) rfl rfl rfl hl.1 rfl (Nat.le_of_ble_eq_true rfl) dX11_cut_36 ⟨Nat.zero_le _, Nat.zero_le _⟩ (fun H locs w => ?_)
      rw [mk_pm_5 rfl (by omega)] at w
      refine lv_iload_n hx hb dX11_cut_39 rfl (lv_at hl 0 rfl) ?_
      refine lv_iconst (v := 1) hx hb dX11_cut_40 (by decide) ?_
      refine lv_isub hx hb dX11_cut_41 ?_
      exact hend H locs ((g (5 + r) - 1)) (L, ob_W D f oa (cs_log C a 5 (nI r) (g (5 + r))) mk im mk ad n (va_up g (5 + r) (g (5 + r) - 1))) _ ls w ⟨(by (try simp only [lg_cmp_le, lg_cmp_ge, lg_cmp_lt, lg_cmp_gt, hs_if10, ← Int32.not_lt, ← Int64.not_lt, Classical.not_not] at c_5 c_23); first | (simp [cs_cut, c_5, c_23, hro1, hcr]; done) | (simp [cs_cut, eq_true c_5, c_23, hro1, hcr]; done) | (exfalso; clear hend ; simp_all; done)), (ob_eq (by (try simp only [lg_cmp_le, lg_cmp_ge, lg_cmp_lt, lg_cmp_gt, hs_if10, ← Int32.not_lt, ← Int64.not_lt, Classical.not_not] at c_5 c_23); first | (simp [cs_cut, c_5, c_23, hro1, hcr]; done) | (simp [cs_cut, eq_true c_5, c_23, hro1, hcr]; done) | (exfalso; clear hend ; simp_all; done)) (by (try simp only [lg_cmp_le, lg_cmp_ge, lg_cmp_lt, lg_cmp_gt, hs_if10, ← Int32.not_lt, ← Int64.not_lt, Classical.not_not] at c_5 c_23); first | (simp [cs_cut, c_5, c_23, hro1, hcr]; done) | (simp [cs_cut, eq_true c_5, c_23, hro1, hcr]; done) | (exfalso; clear hend ; simp_all; done)))⟩ rfl dX11_cut_42
    · refine lv_ldc (v := (-1000002)) hx hb hown (hts _ (List.mem_of_getElem? (i := 4) rfl)) dX11_cut_26 ?_
      exact hend H locs ((-1000002)) (L, ob_W D f oa C mk im mk ad n g) _ ls w ⟨(by (try simp only [lg_cmp_le, lg_cmp_ge, lg_cmp_lt, lg_cmp_gt, hs_if10, ← Int32.not_lt, ← Int64.not_lt, Classical.not_not] at c_5 c_23); first | (simp [cs_cut, c_5, c_23, hro1, hcr]; done) | (simp [cs_cut, eq_true c_5, c_23, hro1, hcr]; done) | (exfalso; clear hend ; simp_all; done)), (ob_eq (by (try simp only [lg_cmp_le, lg_cmp_ge, lg_cmp_lt, lg_cmp_gt, hs_if10, ← Int32.not_lt, ← Int64.not_lt, Classical.not_not] at c_5 c_23); first | (simp [cs_cut, c_5, c_23, hro1, hcr]; done) | (simp [cs_cut, eq_true c_5, c_23, hro1, hcr]; done) | (exfalso; clear hend ; simp_all; done)) (by (try simp only [lg_cmp_le, lg_cmp_ge, lg_cmp_lt, lg_cmp_gt, hs_if10, ← Int32.not_lt, ← Int64.not_lt, Classical.not_not] at c_5 c_23); first | (simp [cs_cut, c_5, c_23, hro1, hcr]; done) | (simp [cs_cut, eq_true c_5, c_23, hro1, hcr]; done) | (exfalso; clear hend ; simp_all; done)))⟩ rfl dX11_cut_28
  · refine lv_ldc (v := (-1000001)) hx hb hown (hts _ (List.mem_of_getElem? (i := 1) rfl)) dX11_cut_8 ?_
    exact hend H locs ((-1000001)) (L, ob_W D f oa C mk im mk ad n g) _ ls w ⟨(by (try simp only [lg_cmp_le, lg_cmp_ge, lg_cmp_lt, lg_cmp_gt, hs_if10, ← Int32.not_lt, ← Int64.not_lt, Classical.not_not] at c_5); first | (simp [cs_cut, c_5]; done) | (simp [cs_cut, c_5]; done) | (exfalso; clear hend ; simp_all; done)), (ob_eq (by (try simp only [lg_cmp_le, lg_cmp_ge, lg_cmp_lt, lg_cmp_gt, hs_if10, ← Int32.not_lt, ← Int64.not_lt, Classical.not_not] at c_5); first | (simp [cs_cut, c_5]; done) | (simp [cs_cut, c_5]; done) | (exfalso; clear hend ; simp_all; done)) (by (try simp only [lg_cmp_le, lg_cmp_ge, lg_cmp_lt, lg_cmp_gt, hs_if10, ← Int32.not_lt, ← Int64.not_lt, Classical.not_not] at c_5); first | (simp [cs_cut, c_5]; done) | (simp [cs_cut, c_5]; done) | (exfalso; clear hend ; simp_all; done)))⟩ rfl dX11_cut_10
