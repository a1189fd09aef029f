set_option maxRecDepth 20000 in
theorem mX3_findOrEnlist_f27 : Cond.fieldLink RX3 27 "CodePages" "listed" "[I" ∈ wsX3_findOrEnlist := by decide +kernel
set_option maxRecDepth 20000 in
theorem mX3_findOrEnlist_f41 : Cond.fieldLink RX3 41 "CodePages" "listedCount" "I" ∈ wsX3_findOrEnlist := by decide +kernel
set_option maxRecDepth 20000 in
theorem mX3_findOrEnlist_f65 : Cond.fieldLink RX3 65 "CodePages$Page" "meanings" "[I" ∈ wsX3_findOrEnlist := by decide +kernel
set_option maxRecDepth 20000 in
theorem iX3_findOrEnlist_X1 : ∀ w ∈ u_ws RX1 TX1 2, w ∈ wsX3_findOrEnlist := by decide +kernel
set_option maxRecDepth 20000 in
theorem iX3_findOrEnlist_X3 : ∀ w ∈ u_ws RX3 TX3 8, w ∈ wsX3_findOrEnlist := by decide +kernel
set_option maxHeartbeats 4000000 in
set_option maxRecDepth 100000 in
theorem tX3_findOrEnlist (l : Launch) (D : va_G) (k : Nat → ClassId) (M : mw) (sz : Nat) (h : Nat → Nat) (b : Nat → Nat → Nat) (T : Nat → Nat × Nat) (n : Nat → Nat) (c9 : Nat → Nat → Nat → Int32) (g : Nat → Nat → Int32) (L : Nat → Nat) (X : Nat → Nat → Nat) (j pp qq : Nat) (hR : cp_R k h b n c9 M) (hT : cp_T h b T n) (hn9 : mo_B n) (hs : sm n c9 g L X) (hj : j < 256) (hpp : pp < n 0) (hqq : qq < n 0) : Met l yX3_findOrEnlist wsX3_findOrEnlist ({ frames := 1, cells := 0, slots := 0, locals := 22 }) (va_Pc [.ref (h 0), .int (nI j), .ref (b 1 pp), .ref (b 1 qq)] (mw_U D vwCl (TY k) M sz)) (va_Qi (fun r M1 => ∃ n1 c1 g1 d, cp_R k h b n1 c1 M1 ∧ mo_B n1 ∧ sm n1 c1 g1 L X ∧ ((d = 0 ∧ r ≠ -1 ∧ R_tr n g j pp qq r n1 g1 d) ∨ (d = 1 ∧ r = -1 ∧ R_tr n g j pp qq (g 2 qq) n1 g1 d))) (mw_B D vwCl M sz) (mw_A M sz)) 0 0 (mw_A M sz) := by
  refine mw_met (cc := cX3_findOrEnlist) (maxL := 5) (ret := (some .int)) (lv := [(0, .ref (h 0)), (1, .int (nI j)), (2, .ref (b 1 pp)), (3, .ref (b 1 qq))]) (by decide) rfl (Nat.le_of_ble_eq_true rfl) rfl ?_
  intro p e s m below meth c ls hE hr hlocks hin hml hsz hP hS hl
  subst hsz
  have hx := hE.1
  have hb := hE.2.1
  have hA : ∀ q, s.heap.size ≤ q → mw_A M s.heap.size q := fun q h => Or.inr h
  obtain ⟨hb0, hb1, hb2, hb3⟩ := id hn9
  obtain ⟨⟨f0, f1, f2, f3, f4⟩, fP, fO, fX⟩ := id hR
  obtain ⟨sP, sO, sX, sG, sL⟩ := id hs
  refine lv_aload_n hx hb dX3_findOrEnlist_0 rfl (lv_at hl 3 rfl) ?_
  refine lv_aload_n hx hb dX3_findOrEnlist_1 rfl (lv_at hl 2 rfl) ?_
  refine mw_get (v := .ref (b 2 pp)) (ci := 2) (T := TX1) (N := 2) (C := RX1) hE iX3_findOrEnlist_X1 hP ((fP pp hpp).1) rfl 0 (by decide) (hE.2.2.1 _ mX3_findOrEnlist_f65) rfl rfl dX3_findOrEnlist_2 ?_
  refine lv_iload_n hx hb dX3_findOrEnlist_5 rfl (lv_at hl 1 rfl) ?_
  refine rw_iald hE hP 0 ((fP pp hpp).2) rfl (by decide) dX3_findOrEnlist_6 (by omega) ?_
  refine rw_i (v := g 1 (256 * pp + j)) (((sP pp hpp).2.2.1 j hj).1) ?_
  refine mw_calli hP hS hA (va_runV (As := [.int (g 1 (256 * pp + j))]) (rest := []) ⟨hx, hb, hml, hE.2.2.2.1, hE.2.2.1⟩ (tX1_codeThatMeans l D k _ _ (b 1 qq) (b 2 qq) (c9 1 qq) (c9 2 qq 0) (g 1 (256 * pp + j)) (fP qq hqq).1 (fP qq hqq).2) (cwV 1 hE.2.2.1 gX3_findOrEnlist_X1_codeThatMeans rfl rfl rfl (by decide +kernel) ⟨(Nat.le_of_ble_eq_true rfl), (Nat.le_of_ble_eq_true rfl)⟩) (mw_preV hE hP (ci := 2) rfl rfl ((fP qq hqq).1) [.int (g 1 (256 * pp + j))]) rfl rfl hl.1 rfl (lv_room (Nat.le_of_ble_eq_true rfl)) dX3_findOrEnlist_7 ⟨(Nat.le_of_ble_eq_true rfl), (Nat.le_of_ble_eq_true rfl)⟩) (fun r_1 M1 H locs hw hP hS => ?_)
  obtain ⟨hM1, er_1⟩ := hw
  rw [hM1] at hP
  rw [(mf_spec sP hqq (g 1 (256 * pp + j))).1] at er_1
  refine lv_istore (lv' := [(4, .int r_1), (0, .ref (h 0)), (1, .int (nI j)), (2, .ref (b 1 pp)), (3, .ref (b 1 qq))]) hx hb dX3_findOrEnlist_10 hl (by decide) rfl (fun ls hl => ?_)
  refine lv_iload hx hb dX3_findOrEnlist_12 (lv_at hl 0 rfl) ?_
  refine lv_iconst (v := (-1)) hx hb dX3_findOrEnlist_14 (by decide) ?_
  refine lv_icmp_ne (tgt := 48) hx hb dX3_findOrEnlist_15 (by decide) (fun c_15 => ?_) (fun c_15 => ?_)
  · refine lv_iload hx hb dX3_findOrEnlist_48 (lv_at hl 0 rfl) ?_
    exact mw_iret (v := r_1) hE hr hlocks hP hS dX3_findOrEnlist_50 (⟨n, c9, g, 0, hR, hn9, hs, Or.inl ⟨rfl, c_15, Or.inl ⟨fun q => c_15 (er_1.trans q), er_1, rfl, rfl, rfl⟩⟩⟩)
  · refine lv_aload_n hx hb dX3_findOrEnlist_18 rfl (lv_at hl 1 rfl) ?_
    refine mw_get (v := .int (nI (n 3))) (ci := 4) (T := TX3) (N := 8) (C := RX3) hE iX3_findOrEnlist_X3 hP f0 rfl 7 (by decide) (hE.2.2.1 _ mX3_findOrEnlist_f41) rfl rfl dX3_findOrEnlist_19 ?_
    refine lv_sipush (v := nI 200) hx hb dX3_findOrEnlist_22 (by decide) ?_
    refine lv_icmp_ge (tgt := 48) hx hb dX3_findOrEnlist_25 (by decide) (fun c_25 => ?_) (fun c_25 => ?_)
    · have k_25 : 200 ≤ (n 3) := nn_le (a := 200) (b := (n 3)) c_25 (by omega) (by omega)
      refine lv_iload hx hb dX3_findOrEnlist_48 (lv_at hl 0 rfl) ?_
      exact mw_iret (v := r_1) hE hr hlocks hP hS dX3_findOrEnlist_50 (⟨n, c9, g, 1, hR, hn9, hs, Or.inr ⟨rfl, c_15, Or.inr ⟨er_1.symm.trans c_15, rfl, rfl, Or.inr ⟨by omega, rfl, rfl⟩⟩⟩⟩)
    · have k_25 : (n 3) < 200 := nn_nle (a := 200) (b := (n 3)) c_25 (by omega) (by omega)
      refine lv_aload_n hx hb dX3_findOrEnlist_28 rfl (lv_at hl 1 rfl) ?_
      refine mw_get (v := .ref (h 4)) (ci := 4) (T := TX3) (N := 8) (C := RX3) hE iX3_findOrEnlist_X3 hP f0 rfl 3 (by decide) (hE.2.2.1 _ mX3_findOrEnlist_f27) rfl rfl dX3_findOrEnlist_29 ?_
      refine lv_aload_n hx hb dX3_findOrEnlist_32 rfl (lv_at hl 1 rfl) ?_
      refine mw_get (v := .int (nI (n 3))) (ci := 4) (T := TX3) (N := 8) (C := RX3) hE iX3_findOrEnlist_X3 hP f0 rfl 7 (by decide) (hE.2.2.1 _ mX3_findOrEnlist_f41) rfl rfl dX3_findOrEnlist_33 ?_
      refine lv_iload_n hx hb dX3_findOrEnlist_36 rfl (lv_at hl 2 rfl) ?_
      refine rw_iast hE hP hS 0 f4 rfl (by decide) dX3_findOrEnlist_37 (by omega) (fun H locs hP hS => ?_)
      obtain ⟨M_4, eM_4⟩ : ∃ Z, Z = mw_up M (h 4) (.inl ((k 0), 200, .inl (upd (c9 9 0) (n 3) (nI j)))) := ⟨_, rfl⟩
      have hP : mw_Q (mw_A M s.heap.size) D vwCl M_4 H := by rw [eM_4]; exact hP
      have f_5 : M_4 (h 4) = some (.inl ((k 0), 200, .inl (upd (c9 9 0) (n 3) (nI j)))) := by rw [eM_4]; exact mw_up_s
      have f_6 : M_4 (h 0) = some (.inr (4, [.ref (h 1), .ref (h 2), .ref (h 3), .ref (h 4), .int (nI (n 0)), .int (nI (n 1)), .int (nI (n 2)), .int (nI (n 3))])) := by rw [eM_4, mw_up_n (fun h => by have h1 := f0; rw [h, f4] at h1; cases h1)]; exact f0
      refine lv_aload_n hx hb dX3_findOrEnlist_38 rfl (lv_at hl 1 rfl) ?_
      refine lv_dup hx hb dX3_findOrEnlist_39 rfl ?_
      refine mw_get (v := .int (nI (n 3))) (ci := 4) (T := TX3) (N := 8) (C := RX3) hE iX3_findOrEnlist_X3 hP f_6 rfl 7 (by decide) (hE.2.2.1 _ mX3_findOrEnlist_f41) rfl rfl dX3_findOrEnlist_40 ?_
      refine lv_iconst (v := 1) hx hb dX3_findOrEnlist_43 (by decide) ?_
      refine lv_iadd hx hb dX3_findOrEnlist_44 ?_
      refine rw_i (v := nI ((n 3) + 1)) (nI_1 _) ?_
      refine mw_put (ty := .int) (v := .int (nI ((n 3) + 1))) (ci := 4) (T := TX3) (N := 8) (C := RX3) hE iX3_findOrEnlist_X3 tyX3 tyX3_ok nmX3 hP hS f_6 rfl 7 (by decide) (hE.2.2.1 _ mX3_findOrEnlist_f41) rfl rfl (by decide +kernel) rfl rfl (Nat.le_of_ble_eq_true rfl) dX3_findOrEnlist_45 (fun H locs hP hS => ?_)
      obtain ⟨M_7, eM_7⟩ : ∃ Z, Z = mw_up M_4 (h 0) (.inr (4, [.ref (h 1), .ref (h 2), .ref (h 3), .ref (h 4), .int (nI (n 0)), .int (nI (n 1)), .int (nI (n 2)), .int (nI ((n 3) + 1))])) := ⟨_, rfl⟩
      have hP : mw_Q (mw_A M s.heap.size) D vwCl M_7 H := by rw [eM_7]; exact hP
      have f_8 : M_7 (h 4) = some (.inl ((k 0), 200, .inl (upd (c9 9 0) (n 3) (nI j)))) := by rw [eM_7, mw_up_n (fun h => by have h1 := f_5; rw [h, f_6] at h1; cases h1)]; exact f_5
      have f_9 : M_7 (h 0) = some (.inr (4, [.ref (h 1), .ref (h 2), .ref (h 3), .ref (h 4), .int (nI (n 0)), .int (nI (n 1)), .int (nI (n 2)), .int (nI ((n 3) + 1))])) := by rw [eM_7]; exact mw_up_s
      refine lv_iload hx hb dX3_findOrEnlist_48 (lv_at hl 0 rfl) ?_
      exact mw_iret (v := r_1) hE hr hlocks hP hS dX3_findOrEnlist_50 (⟨va_up n 3 (n 3 + 1), _, _, 1, cp_lst hR hT f_8 f_9 (fun x h1 h2 => by rw [eM_7, mw_up_n h2, eM_4, mw_up_n h1]), ⟨hb0, hb1, hb2, by show n 3 + 1 ≤ 200; omega⟩, sm_lst hs (nI j), Or.inr ⟨rfl, c_15, Or.inr ⟨er_1.symm.trans c_15, rfl, rfl, Or.inl ⟨by omega, rfl, rfl⟩⟩⟩⟩)

set_option maxRecDepth 20000 in
theorem mX3_translate_f75 : Cond.fieldLink RX3 75 "CodePages$Page" "substitute" "I" ∈ wsX3_translate := by decide +kernel
set_option maxRecDepth 20000 in
theorem iX3_translate_X1 : ∀ w ∈ u_ws RX1 TX1 2, w ∈ wsX3_translate := by decide +kernel
set_option maxHeartbeats 4000000 in
set_option maxRecDepth 100000 in
theorem tX3_translate (l : Launch) (D : va_G) (k : Nat → ClassId) (M : mw) (sz : Nat) (h : Nat → Nat) (b : Nat → Nat → Nat) (T : Nat → Nat × Nat) (n : Nat → Nat) (c9 : Nat → Nat → Nat → Int32) (g : Nat → Nat → Int32) (L : Nat → Nat) (X : Nat → Nat → Nat) (x y z : Int32) (hR : cp_R k h b n c9 M) (hT : cp_T h b T n) (hn9 : mo_B n) (hs : sm n c9 g L X) : Met l yX3_translate wsX3_translate ({ frames := 2, cells := 0, slots := 0, locals := 46 }) (va_Pc [.ref (h 0), .int x, .int y, .int z] (mw_U D vwCl (TY k) M sz)) (va_Qi (fun r M1 => ∃ n1 c1 g1, cp_R k h b n1 c1 M1 ∧ sm n1 c1 g1 L X ∧ R_translate n g x y z r n1 g1) (mw_B D vwCl M sz) (mw_A M sz)) 0 0 (mw_A M sz) := by
  refine mw_met (cc := cX3_translate) (maxL := 7) (ret := (some .int)) (lv := [(0, .ref (h 0)), (1, .int x), (2, .int y), (3, .int z)]) (by decide) rfl (Nat.le_of_ble_eq_true rfl) rfl ?_
  intro p e s m below meth c ls hE hr hlocks hin hml hsz hP hS hl
  subst hsz
  have hx := hE.1
  have hb := hE.2.1
  have hA : ∀ q, s.heap.size ≤ q → mw_A M s.heap.size q := fun q h => Or.inr h
  obtain ⟨hb0, hb1, hb2, hb3⟩ := id hn9
  obtain ⟨⟨f0, f1, f2, f3, f4⟩, fP, fO, fX⟩ := id hR
  obtain ⟨sP, sO, sX, sG, sL⟩ := id hs
  refine lv_aload_n hx hb dX3_translate_0 rfl (lv_at hl 0 rfl) ?_
  refine lv_iload_n hx hb dX3_translate_1 rfl (lv_at hl 2 rfl) ?_
  refine mw_callq hP hS hA (va_runV (As := [.int y]) (rest := []) ⟨hx, hb, hml, hE.2.2.2.1, hE.2.2.1⟩ (tX3_pageAt l D k _ _ h (fun j => nI (n (j - 4))) (n 0) (b 1) y hb0 f0 f1) (cwV 1 hE.2.2.1 gX3_translate_X3_pageAt rfl rfl rfl (by decide +kernel) ⟨(Nat.le_of_ble_eq_true rfl), (Nat.le_of_ble_eq_true rfl)⟩) (mw_preV hE hP (ci := 4) rfl rfl f0 [.int y]) rfl rfl hl.1 rfl (lv_room (Nat.le_of_ble_eq_true rfl)) dX3_translate_2 ⟨(Nat.le_of_ble_eq_true rfl), (Nat.le_of_ble_eq_true rfl)⟩) (fun r_1 M1 H locs hw hP hS => ?_)
  obtain ⟨hM1, hw⟩ := hw
  rw [hM1] at hP
  rcases hw with ⟨pp, hpp, rfl, rfl⟩ | ⟨hq_2, rfl⟩
  · skip
    refine lv_astore (lv' := [(4, .ref (b 1 pp)), (0, .ref (h 0)), (1, .int x), (2, .int (nI pp)), (3, .int z)]) hx hb dX3_translate_5 hl (by decide) rfl (fun ls hl => ?_)
    refine lv_aload_n hx hb dX3_translate_7 rfl (lv_at hl 1 rfl) ?_
    refine lv_iload_n hx hb dX3_translate_8 rfl (lv_at hl 4 rfl) ?_
    refine mw_callq hP hS hA (va_runV (As := [.int z]) (rest := []) ⟨hx, hb, hml, hE.2.2.2.1, hE.2.2.1⟩ (tX3_pageAt l D k _ _ h (fun j => nI (n (j - 4))) (n 0) (b 1) z hb0 f0 f1) (cwV 1 hE.2.2.1 gX3_translate_X3_pageAt rfl rfl rfl (by decide +kernel) ⟨(Nat.le_of_ble_eq_true rfl), (Nat.le_of_ble_eq_true rfl)⟩) (mw_preV hE hP (ci := 4) rfl rfl f0 [.int z]) rfl rfl hl.1 rfl (lv_room (Nat.le_of_ble_eq_true rfl)) dX3_translate_9 ⟨(Nat.le_of_ble_eq_true rfl), (Nat.le_of_ble_eq_true rfl)⟩) (fun r_3 M1 H locs hw hP hS => ?_)
    obtain ⟨hM1, hw⟩ := hw
    rw [hM1] at hP
    rcases hw with ⟨qq, hqq, rfl, rfl⟩ | ⟨hq_4, rfl⟩
    · skip
      refine lv_astore (lv' := [(5, .ref (b 1 qq)), (4, .ref (b 1 pp)), (0, .ref (h 0)), (1, .int x), (2, .int (nI pp)), (3, .int (nI qq))]) hx hb dX3_translate_12 hl (by decide) rfl (fun ls hl => ?_)
      refine lv_aload hx hb dX3_translate_14 (lv_at hl 1 rfl) ?_
      refine lv_ifnull hx hb dX3_translate_16 ?_
      refine lv_aload hx hb dX3_translate_19 (lv_at hl 0 rfl) ?_
      refine lv_ifnonnull (tgt := 27) hx hb dX3_translate_21 (by decide) ?_
      refine lv_iload_n hx hb dX3_translate_27 rfl (lv_at hl 3 rfl) ?_
      refine mw_calli hP hS hA (va_runS (As := [.int x]) (rest := []) ⟨hx, hb, hml, hE.2.2.2.1, hE.2.2.1⟩ (tX3_isCode l D k _ _ x) (va_cwS 1 hE.2.2.1 gX3_translate_X3_isCode rfl rfl rfl (by decide +kernel) ⟨(Nat.le_of_ble_eq_true rfl), (Nat.le_of_ble_eq_true rfl)⟩) (mw_preS hE hP [.int x]) rfl rfl hl.1 rfl (lv_room (Nat.le_of_ble_eq_true rfl)) dX3_translate_28 ⟨(Nat.le_of_ble_eq_true rfl), (Nat.le_of_ble_eq_true rfl)⟩) (fun r_5 M1 H locs hw hP hS => ?_)
      obtain ⟨hM1, hw⟩ := hw
      rw [hM1] at hP
      rcases hw with ⟨hq_6, rfl⟩ | ⟨hq_6, rfl⟩
      · obtain ⟨j, hj, rfl⟩ := vp_in_of hq_6 (by omega)
        skip
        refine lv_if_ne (tgt := 37) hx hb dX3_translate_31 (by decide) (fun _ => ?_) (fun c9 => absurd c9 (by decide))
        refine lv_aload_n hx hb dX3_translate_37 rfl (lv_at hl 2 rfl) ?_
        refine lv_iload_n hx hb dX3_translate_38 rfl (lv_at hl 3 rfl) ?_
        refine lv_aload hx hb dX3_translate_39 (lv_at hl 1 rfl) ?_
        refine lv_aload hx hb dX3_translate_41 (lv_at hl 0 rfl) ?_
        refine mw_calli hP hS hA (va_runV (As := [.int (nI j), .ref (b 1 pp), .ref (b 1 qq)]) (rest := []) ⟨hx, hb, hml, hE.2.2.2.1, hE.2.2.1⟩ (tX3_findOrEnlist l D k _ _ h b T n c9 g L X j pp qq hR hT hn9 hs hj hpp hqq) (cwV 3 hE.2.2.1 gX3_translate_X3_findOrEnlist rfl rfl rfl (by decide +kernel) ⟨(Nat.le_of_ble_eq_true rfl), (Nat.le_of_ble_eq_true rfl)⟩) (mw_preV hE hP (ci := 4) rfl rfl f0 [.int (nI j), .ref (b 1 pp), .ref (b 1 qq)]) rfl rfl hl.1 rfl (lv_room (Nat.le_of_ble_eq_true rfl)) dX3_translate_43 ⟨(Nat.le_of_ble_eq_true rfl), (Nat.le_of_ble_eq_true rfl)⟩) (fun r_8 M2 H locs hw hP hS => ?_)
        obtain ⟨n1, c1, g1, d1, hR1, hB1, hs1, hw⟩ := hw
        rcases hw with ⟨rfl, hr9, hw⟩ | ⟨rfl, rfl, hw⟩
        · have hq1 : qq < n1 0 := by rw [wh_n hw (by decide)]; exact hqq
          refine lv_istore (lv' := [(6, .int r_8), (5, .ref (b 1 qq)), (4, .ref (b 1 pp)), (0, .ref (h 0)), (1, .int (nI j)), (2, .int (nI pp)), (3, .int (nI qq))]) hx hb dX3_translate_46 hl (by decide) rfl (fun ls hl => ?_)
          refine lv_iload hx hb dX3_translate_48 (lv_at hl 0 rfl) ?_
          refine lv_iconst (v := (-1)) hx hb dX3_translate_50 (by decide) ?_
          refine lv_icmp_eq (tgt := 59) hx hb dX3_translate_51 (by decide) (fun c_51 => absurd c_51 hr9) (fun c_51 => ?_)
          refine lv_iload hx hb dX3_translate_54 (lv_at hl 0 rfl) ?_
          refine lv_goto (tgt := 64) hx hb dX3_translate_56 (by decide) ?_
          refine rw_i (v := r_8) rfl ?_
          exact mw_iret (v := r_8) hE hr hlocks hP hS dX3_translate_64 (⟨n1, c1, g1, hR1, hs1, Or.inr (Or.inr ⟨j, pp, qq, _, hj, hpp, hqq, rfl, rfl, rfl, hw⟩)⟩)
        · have hq1 : qq < n1 0 := by rw [wh_n hw (by decide)]; exact hqq
          refine lv_istore (lv' := [(6, .int (-1)), (5, .ref (b 1 qq)), (4, .ref (b 1 pp)), (0, .ref (h 0)), (1, .int (nI j)), (2, .int (nI pp)), (3, .int (nI qq))]) hx hb dX3_translate_46 hl (by decide) rfl (fun ls hl => ?_)
          refine lv_iload hx hb dX3_translate_48 (lv_at hl 0 rfl) ?_
          refine lv_iconst (v := (-1)) hx hb dX3_translate_50 (by decide) ?_
          refine lv_icmp_eq (tgt := 59) hx hb dX3_translate_51 (by decide) (fun _ => ?_) (fun c9 => absurd (by decide) c9)
          refine lv_aload hx hb dX3_translate_59 (lv_at hl 1 rfl) ?_
          refine mw_get (v := .int (c1 2 qq 0)) (ci := 2) (T := TX1) (N := 2) (C := RX1) hE iX3_translate_X1 hP ((hR1.2.1 qq hq1).1) rfl 1 (by decide) (hE.2.2.1 _ mX3_translate_f75) rfl rfl dX3_translate_61 ?_
          refine rw_i (v := g 2 qq) (by rw [(hs1.1 qq hq1).1]; exact congrFun (wh_g hw (by decide)) qq) ?_
          exact mw_iret (v := g 2 qq) hE hr hlocks hP hS dX3_translate_64 (⟨n1, c1, g1, hR1, hs1, Or.inr (Or.inr ⟨j, pp, qq, _, hj, hpp, hqq, rfl, rfl, rfl, hw⟩)⟩)
      · skip
        refine lv_if_ne (tgt := 37) hx hb dX3_translate_31 (by decide) (fun c9 => absurd (by decide) c9) (fun _ => ?_)
        refine lv_bipush (v := (-4)) hx hb dX3_translate_34 (by decide) ?_
        exact mw_iret (v := (-4)) hE hr hlocks hP hS dX3_translate_36 (⟨n, c9, g, hR, hs, Or.inr (Or.inl ⟨⟨vp_in_nI hpp (by omega), vp_in_nI hqq (by omega)⟩, hq_6, rfl, rfl, rfl⟩)⟩)
    · skip
      refine lv_astoreN (lv' := [(5, .null), (4, .ref (b 1 pp)), (0, .ref (h 0)), (1, .int x), (2, .int (nI pp)), (3, .int z)]) hx hb dX3_translate_12 hl (by decide) rfl (fun ls hl => ?_)
      refine lv_aload hx hb dX3_translate_14 (lv_at hl 1 rfl) ?_
      refine lv_ifnull hx hb dX3_translate_16 ?_
      refine lv_aloadN hx hb dX3_translate_19 (lv_at hl 0 rfl) ?_
      refine lv_ifnonnullN hx hb dX3_translate_21 ?_
      refine lv_bipush (v := (-2)) hx hb dX3_translate_24 (by decide) ?_
      exact mw_iret (v := (-2)) hE hr hlocks hP hS dX3_translate_26 (⟨n, c9, g, hR, hs, Or.inl ⟨fun q => hq_4 q.2, rfl, rfl, rfl⟩⟩)
  · skip
    refine lv_astoreN (lv' := [(4, .null), (0, .ref (h 0)), (1, .int x), (2, .int y), (3, .int z)]) hx hb dX3_translate_5 hl (by decide) rfl (fun ls hl => ?_)
    refine lv_aload_n hx hb dX3_translate_7 rfl (lv_at hl 1 rfl) ?_
    refine lv_iload_n hx hb dX3_translate_8 rfl (lv_at hl 4 rfl) ?_
    refine mw_callq hP hS hA (va_runV (As := [.int z]) (rest := []) ⟨hx, hb, hml, hE.2.2.2.1, hE.2.2.1⟩ (tX3_pageAt l D k _ _ h (fun j => nI (n (j - 4))) (n 0) (b 1) z hb0 f0 f1) (cwV 1 hE.2.2.1 gX3_translate_X3_pageAt rfl rfl rfl (by decide +kernel) ⟨(Nat.le_of_ble_eq_true rfl), (Nat.le_of_ble_eq_true rfl)⟩) (mw_preV hE hP (ci := 4) rfl rfl f0 [.int z]) rfl rfl hl.1 rfl (lv_room (Nat.le_of_ble_eq_true rfl)) dX3_translate_9 ⟨(Nat.le_of_ble_eq_true rfl), (Nat.le_of_ble_eq_true rfl)⟩) (fun r_12 M1 H locs hw hP hS => ?_)
    obtain ⟨hM1, hw⟩ := hw
    rw [hM1] at hP
    rcases hw with ⟨qq, hqq, rfl, rfl⟩ | ⟨hq_13, rfl⟩
    · skip
      refine lv_astore (lv' := [(5, .ref (b 1 qq)), (4, .null), (0, .ref (h 0)), (1, .int x), (2, .int y), (3, .int (nI qq))]) hx hb dX3_translate_12 hl (by decide) rfl (fun ls hl => ?_)
      refine lv_aloadN hx hb dX3_translate_14 (lv_at hl 1 rfl) ?_
      refine lv_ifnullN (tgt := 24) hx hb dX3_translate_16 (by decide) ?_
      refine lv_bipush (v := (-2)) hx hb dX3_translate_24 (by decide) ?_
      exact mw_iret (v := (-2)) hE hr hlocks hP hS dX3_translate_26 (⟨n, c9, g, hR, hs, Or.inl ⟨fun q => hq_2 q.1, rfl, rfl, rfl⟩⟩)
    · skip
      refine lv_astoreN (lv' := [(5, .null), (4, .null), (0, .ref (h 0)), (1, .int x), (2, .int y), (3, .int z)]) hx hb dX3_translate_12 hl (by decide) rfl (fun ls hl => ?_)
      refine lv_aloadN hx hb dX3_translate_14 (lv_at hl 1 rfl) ?_
      refine lv_ifnullN (tgt := 24) hx hb dX3_translate_16 (by decide) ?_
      refine lv_bipush (v := (-2)) hx hb dX3_translate_24 (by decide) ?_
      exact mw_iret (v := (-2)) hE hr hlocks hP hS dX3_translate_26 (⟨n, c9, g, hR, hs, Or.inl ⟨fun q => hq_2 q.1, rfl, rfl, rfl⟩⟩)

set_option maxRecDepth 20000 in
theorem mX3_compare_f118 : Cond.fieldLink RX3 118 "CodePages$Text" "size" "I" ∈ wsX3_compare := by decide +kernel
set_option maxRecDepth 20000 in
theorem mX3_compare_f128 : Cond.fieldLink RX3 128 "CodePages$Order" "ranks" "[I" ∈ wsX3_compare := by decide +kernel
set_option maxRecDepth 20000 in
theorem iX3_compare_X0 : ∀ w ∈ u_ws RX0 TX0 4, w ∈ wsX3_compare := by decide +kernel
set_option maxRecDepth 20000 in
theorem iX3_compare_X2 : ∀ w ∈ u_ws RX2 TX2 2, w ∈ wsX3_compare := by decide +kernel
set_option maxRecDepth 20000 in
theorem mX3_compare_inijavalangMath : Cond.initialized "java/lang/Math" ∈ wsX3_compare := by decide +kernel
set_option maxRecDepth 20000 in
theorem mX3_compare_mathmax : Cond.code Lib.Math.max.name Lib.Math.max.code 2 (some .int) ∈ wsX3_compare := by decide +kernel
set_option maxRecDepth 20000 in
theorem mX3_compare_ml124 : Cond.methodLink RX3 124 Lib.Math.max.name ∈ wsX3_compare := by decide +kernel
set_option maxRecDepth 20000 in
theorem mX3_compare_stLibMathmaxname : Cond.static Lib.Math.max.name ∈ wsX3_compare := by decide +kernel
set_option maxHeartbeats 4000000 in
set_option maxRecDepth 100000 in
theorem tX3_compare (l : Launch) (D : va_G) (k : Nat → ClassId) (M : mw) (sz : Nat) (h : Nat → Nat) (b : Nat → Nat → Nat) (T : Nat → Nat × Nat) (n : Nat → Nat) (c9 : Nat → Nat → Nat → Int32) (g : Nat → Nat → Int32) (L : Nat → Nat) (X : Nat → Nat → Nat) (x y z : Int32) (hR : cp_R k h b n c9 M) (hT : cp_T h b T n) (hn9 : mo_B n) (hs : sm n c9 g L X) : Met l yX3_compare wsX3_compare ({ frames := 1, cells := 0, slots := 0, locals := 21 }) (va_Pc [.ref (h 0), .int x, .int y, .int z] (mw_U D vwCl (TY k) M sz)) (va_Qi (fun r M1 => M1 = M ∧ R_compare n g L X x y z r) (mw_B D vwCl M sz) (mw_A M sz)) 0 0 (mw_A M sz) := by
  refine mw_met (cc := cX3_compare) (maxL := 11) (ret := (some .int)) (lv := [(0, .ref (h 0)), (1, .int x), (2, .int y), (3, .int z)]) (by decide) rfl (Nat.le_of_ble_eq_true rfl) rfl ?_
  intro p e s m below meth c ls hE hr hlocks hin hml hsz hP hS hl
  subst hsz
  have hx := hE.1
  have hb := hE.2.1
  have hA : ∀ q, s.heap.size ≤ q → mw_A M s.heap.size q := fun q h => Or.inr h
  obtain ⟨Q, hQ⟩ : ∃ Q : State → Prop, Q = MQ below (va_Qi (fun r M1 => M1 = M ∧ R_compare n g L X x y z r) (mw_B D vwCl M s.heap.size) (mw_A M s.heap.size)) ([.ref (h 0), .int x, .int y, .int z] : List Value).toArray s 0 0 (mw_A M s.heap.size) := ⟨_, rfl⟩
  rw [← hQ]
  obtain ⟨hb0, hb1, hb2, hb3⟩ := id hn9
  obtain ⟨⟨f0, f1, f2, f3, f4⟩, fP, fO, fX⟩ := id hR
  obtain ⟨sP, sO, sX, sG, sL⟩ := id hs
  refine lv_aload_n hx hb dX3_compare_0 rfl (lv_at hl 0 rfl) ?_
  refine lv_iload_n hx hb dX3_compare_1 rfl (lv_at hl 1 rfl) ?_
  refine mw_callq hP hS hA (va_runV (As := [.int x]) (rest := []) ⟨hx, hb, hml, hE.2.2.2.1, hE.2.2.1⟩ (tX3_orderAt l D k _ _ h (fun j => nI (n (j - 4))) (n 1) (b 3) x hb1 f0 f2) (cwV 1 hE.2.2.1 gX3_compare_X3_orderAt rfl rfl rfl (by decide +kernel) ⟨(Nat.le_of_ble_eq_true rfl), (Nat.le_of_ble_eq_true rfl)⟩) (mw_preV hE hP (ci := 4) rfl rfl f0 [.int x]) rfl rfl hl.1 rfl (lv_room (Nat.le_of_ble_eq_true rfl)) dX3_compare_2 ⟨(Nat.le_of_ble_eq_true rfl), (Nat.le_of_ble_eq_true rfl)⟩) (fun r_1 M1 H locs hw hP hS => ?_)
  obtain ⟨hM1, hw⟩ := hw
  rw [hM1] at hP
  rcases hw with ⟨oo, hoo, rfl, rfl⟩ | ⟨hq_2, rfl⟩
  · skip
    refine lv_astore (lv' := [(4, .ref (b 3 oo)), (0, .ref (h 0)), (1, .int (nI oo)), (2, .int y), (3, .int z)]) hx hb dX3_compare_5 hl (by decide) rfl (fun ls hl => ?_)
    refine lv_aload_n hx hb dX3_compare_7 rfl (lv_at hl 1 rfl) ?_
    refine lv_iload_n hx hb dX3_compare_8 rfl (lv_at hl 3 rfl) ?_
    refine mw_callq hP hS hA (va_runV (As := [.int y]) (rest := []) ⟨hx, hb, hml, hE.2.2.2.1, hE.2.2.1⟩ (tX3_textAt l D k _ _ h (fun j => nI (n (j - 4))) (n 2) (b 6) y hb2 f0 f3) (cwV 1 hE.2.2.1 gX3_compare_X3_textAt rfl rfl rfl (by decide +kernel) ⟨(Nat.le_of_ble_eq_true rfl), (Nat.le_of_ble_eq_true rfl)⟩) (mw_preV hE hP (ci := 4) rfl rfl f0 [.int y]) rfl rfl hl.1 rfl (lv_room (Nat.le_of_ble_eq_true rfl)) dX3_compare_9 ⟨(Nat.le_of_ble_eq_true rfl), (Nat.le_of_ble_eq_true rfl)⟩) (fun r_3 M1 H locs hw hP hS => ?_)
    obtain ⟨hM1, hw⟩ := hw
    rw [hM1] at hP
    rcases hw with ⟨ta, hta, rfl, rfl⟩ | ⟨hq_4, rfl⟩
    · skip
      refine lv_astore (lv' := [(5, .ref (b 6 ta)), (4, .ref (b 3 oo)), (0, .ref (h 0)), (1, .int (nI oo)), (2, .int (nI ta)), (3, .int z)]) hx hb dX3_compare_12 hl (by decide) rfl (fun ls hl => ?_)
      refine lv_aload_n hx hb dX3_compare_14 rfl (lv_at hl 2 rfl) ?_
      refine lv_iload_n hx hb dX3_compare_15 rfl (lv_at hl 5 rfl) ?_
      refine mw_callq hP hS hA (va_runV (As := [.int z]) (rest := []) ⟨hx, hb, hml, hE.2.2.2.1, hE.2.2.1⟩ (tX3_textAt l D k _ _ h (fun j => nI (n (j - 4))) (n 2) (b 6) z hb2 f0 f3) (cwV 1 hE.2.2.1 gX3_compare_X3_textAt rfl rfl rfl (by decide +kernel) ⟨(Nat.le_of_ble_eq_true rfl), (Nat.le_of_ble_eq_true rfl)⟩) (mw_preV hE hP (ci := 4) rfl rfl f0 [.int z]) rfl rfl hl.1 rfl (lv_room (Nat.le_of_ble_eq_true rfl)) dX3_compare_16 ⟨(Nat.le_of_ble_eq_true rfl), (Nat.le_of_ble_eq_true rfl)⟩) (fun r_5 M1 H locs hw hP hS => ?_)
      obtain ⟨hM1, hw⟩ := hw
      rw [hM1] at hP
      rcases hw with ⟨tb, htb, rfl, rfl⟩ | ⟨hq_6, rfl⟩
      · skip
        refine lv_astore (lv' := [(6, .ref (b 6 tb)), (5, .ref (b 6 ta)), (4, .ref (b 3 oo)), (0, .ref (h 0)), (1, .int (nI oo)), (2, .int (nI ta)), (3, .int (nI tb))]) hx hb dX3_compare_19 hl (by decide) rfl (fun ls hl => ?_)
        refine lv_aload hx hb dX3_compare_21 (lv_at hl 2 rfl) ?_
        refine lv_ifnull hx hb dX3_compare_23 ?_
        refine lv_aload hx hb dX3_compare_26 (lv_at hl 1 rfl) ?_
        refine lv_ifnull hx hb dX3_compare_28 ?_
        refine lv_aload hx hb dX3_compare_31 (lv_at hl 0 rfl) ?_
        refine lv_ifnonnull (tgt := 39) hx hb dX3_compare_33 (by decide) ?_
        have hLa := (sG ta hta).1
        have hLb := (sG tb htb).1
        obtain ⟨mm, hm1, hm2, hm3, hmm⟩ := max_ex (a := L ta) (b := L tb) (by omega) (by omega)
        refine lv_aload hx hb dX3_compare_39 (lv_at hl 1 rfl) ?_
        refine mw_get (v := .int (c9 8 ta 0)) (ci := 3) (T := TX2) (N := 2) (C := RX2) hE iX3_compare_X2 hP ((fX ta hta).1) rfl 1 (by decide) (hE.2.2.1 _ mX3_compare_f118) rfl rfl dX3_compare_41 ?_
        refine rw_i (v := nI (L ta)) ((sX ta hta).1) ?_
        refine lv_aload hx hb dX3_compare_44 (lv_at hl 0 rfl) ?_
        refine mw_get (v := .int (c9 8 tb 0)) (ci := 3) (T := TX2) (N := 2) (C := RX2) hE iX3_compare_X2 hP ((fX tb htb).1) rfl 1 (by decide) (hE.2.2.1 _ mX3_compare_f118) rfl rfl dX3_compare_46 ?_
        refine rw_i (v := nI (L tb)) ((sX tb htb).1) ?_
        refine va_mmax hx hb (by rw [hml]; exact hl.1.symm) hE.2.2.2.1 (hE.2.2.1 _ mX3_compare_ml124) (hE.2.2.1 _ mX3_compare_stLibMathmaxname) (hE.2.2.1 _ mX3_compare_inijavalangMath) (hE.2.2.1 _ mX3_compare_mathmax) (by decide) (Nat.le_of_ble_eq_true rfl) (by decide) (by decide) dX3_compare_49 ?_
        refine rw_i (v := nI mm) hmm ?_
        refine lv_istore (lv' := [(7, .int (nI mm)), (6, .ref (b 6 tb)), (5, .ref (b 6 ta)), (4, .ref (b 3 oo)), (0, .ref (h 0)), (1, .int (nI oo)), (2, .int (nI ta)), (3, .int (nI tb))]) hx hb dX3_compare_52 hl (by decide) rfl (fun ls hl => ?_)
        refine lv_iconst (v := 0) hx hb dX3_compare_54 (by decide) ?_
        refine lv_istore (lv' := [(8, .int 0), (7, .int (nI mm)), (6, .ref (b 6 tb)), (5, .ref (b 6 ta)), (4, .ref (b 3 oo)), (0, .ref (h 0)), (1, .int (nI oo)), (2, .int (nI ta)), (3, .int (nI tb))]) hx hb dX3_compare_55 hl (by decide) rfl (fun ls hl => ?_)
        have lp_57 : ∀ (fu : Nat) (kk : Nat), (kk ≤ mm) → (cmpf (fun k => rko g oo (rdn L X ta k)) (fun k => rko g oo (rdn L X tb k)) 0 40 = cmpf (fun k => rko g oo (rdn L X ta k)) (fun k => rko g oo (rdn L X tb k)) kk (40 - kk)) → mm - kk < fu → ∀ (H : Heap) (locs : List Loc), mw_Q (mw_A M s.heap.size) D vwCl M H → va_S (mw_A M s.heap.size) s.heap H locs → ∀ ls : Array Slot, lv_has ls 11 [(4, .ref (b 3 oo)), (5, .ref (b 6 ta)), (6, .ref (b 6 tb)), (7, .int (nI mm)), (8, .int (nI kk))] → W p l e ({ frames := 1, cells := 0, slots := 0, locals := 21 } : Room) s m ([.ref (h 0), .int (nI oo), .int (nI ta), .int (nI tb)] : List Value).toArray below meth c H locs 0 0 Q (F0 m 57 ls []) := by
          intro fu
          induction fu with
          | zero => intro kk hkk hv hn; exact absurd hn (Nat.not_lt_zero _)
          | succ fu ih_57 =>
            intro kk hkk hv hn H locs hP hS ls hl
            refine lv_iload hx hb dX3_compare_57 (lv_at hl 4 rfl) ?_
            refine lv_iload hx hb dX3_compare_59 (lv_at hl 3 rfl) ?_
            refine lv_icmp_ge (tgt := 120) hx hb dX3_compare_61 (by decide) (fun c_61 => ?_) (fun c_61 => ?_)
            · have k_61 : mm ≤ kk := nn_le (a := mm) (b := kk) c_61 (by omega) (by omega)
              refine lv_iconst (v := 0) hx hb dX3_compare_120 (by decide) ?_
              rw [hQ]
              exact mw_iret (v := 0) hE hr hlocks hP hS dX3_compare_121 (⟨rfl, Or.inr ⟨oo, ta, tb, hoo, hta, htb, rfl, rfl, rfl, by rw [hv, cmpf_eq _ _ (fun q hq => by show rko g oo (rdn L X ta q) = rko g oo (rdn L X tb q); rw [rdn_blank (by omega), rdn_blank (by omega)])]⟩⟩)
            · have k_61 : kk < mm := nn_nle (a := mm) (b := kk) c_61 (by omega) (by omega)
              refine lv_aload hx hb dX3_compare_64 (lv_at hl 0 rfl) ?_
              refine mw_get (v := .ref (b 4 oo)) (ci := 1) (T := TX0) (N := 4) (C := RX0) hE iX3_compare_X0 hP ((fO oo hoo).1) rfl 1 (by decide) (hE.2.2.1 _ mX3_compare_f128) rfl rfl dX3_compare_66 ?_
              refine lv_aload hx hb dX3_compare_69 (lv_at hl 1 rfl) ?_
              refine lv_iload hx hb dX3_compare_71 (lv_at hl 4 rfl) ?_
              refine mw_calli hP hS hA (va_runV (As := [.int (nI kk)]) (rest := [.ref (b 4 oo)]) ⟨hx, hb, hml, hE.2.2.2.1, hE.2.2.1⟩ (tX2_codeOrBlank l D k _ _ (b 6 ta) (b 7 ta) kk (L ta) (c9 7 ta) (by omega) (by have := (sG ta hta).1; omega) (cp_fix (fX ta hta).1 (by rw [show cp_tx b c9 ta = .inr (3, [.ref (b 7 ta), .int (c9 8 ta 0)]) from rfl, (sX ta hta).1])) (fX ta hta).2) (cwV 1 hE.2.2.1 gX3_compare_X2_codeOrBlank rfl rfl rfl (by decide +kernel) ⟨(Nat.le_of_ble_eq_true rfl), (Nat.le_of_ble_eq_true rfl)⟩) (mw_preV hE hP (ci := 3) rfl rfl ((fX ta hta).1) [.int (nI kk)]) rfl rfl hl.1 rfl (lv_room (Nat.le_of_ble_eq_true rfl)) dX3_compare_73 ⟨(Nat.le_of_ble_eq_true rfl), (Nat.le_of_ble_eq_true rfl)⟩) (fun r_8 M1 H locs hw hP hS => ?_)
              obtain ⟨hM1, er_8⟩ := hw
              rw [hM1] at hP
              obtain rfl : r_8 = nI (rdn L X ta kk) := by rw [er_8]; unfold rdn; by_cases hz : kk < L ta; (rw [if_pos hz, if_pos hz]; exact (sX ta hta).2 kk hz); (rw [if_neg hz, if_neg hz])
              refine rw_iald hE hP 0 ((fO oo hoo).2.1) rfl (by decide) dX3_compare_76 (rdn_lt sG hta kk) ?_
              refine rw_i (v := rko g oo (rdn L X ta kk)) ((sO oo hoo).2.1 _ (rdn_lt sG hta kk)) ?_
              refine lv_istore (lv' := [(9, .int (rko g oo (rdn L X ta kk))), (4, .ref (b 3 oo)), (5, .ref (b 6 ta)), (6, .ref (b 6 tb)), (7, .int (nI mm)), (8, .int (nI kk))]) hx hb dX3_compare_77 hl (by decide) rfl (fun ls hl => ?_)
              refine lv_aload hx hb dX3_compare_79 (lv_at hl 1 rfl) ?_
              refine mw_get (v := .ref (b 4 oo)) (ci := 1) (T := TX0) (N := 4) (C := RX0) hE iX3_compare_X0 hP ((fO oo hoo).1) rfl 1 (by decide) (hE.2.2.1 _ mX3_compare_f128) rfl rfl dX3_compare_81 ?_
              refine lv_aload hx hb dX3_compare_84 (lv_at hl 3 rfl) ?_
              refine lv_iload hx hb dX3_compare_86 (lv_at hl 5 rfl) ?_
              refine mw_calli hP hS hA (va_runV (As := [.int (nI kk)]) (rest := [.ref (b 4 oo)]) ⟨hx, hb, hml, hE.2.2.2.1, hE.2.2.1⟩ (tX2_codeOrBlank l D k _ _ (b 6 tb) (b 7 tb) kk (L tb) (c9 7 tb) (by omega) (by have := (sG tb htb).1; omega) (cp_fix (fX tb htb).1 (by rw [show cp_tx b c9 tb = .inr (3, [.ref (b 7 tb), .int (c9 8 tb 0)]) from rfl, (sX tb htb).1])) (fX tb htb).2) (cwV 1 hE.2.2.1 gX3_compare_X2_codeOrBlank rfl rfl rfl (by decide +kernel) ⟨(Nat.le_of_ble_eq_true rfl), (Nat.le_of_ble_eq_true rfl)⟩) (mw_preV hE hP (ci := 3) rfl rfl ((fX tb htb).1) [.int (nI kk)]) rfl rfl hl.1 rfl (lv_room (Nat.le_of_ble_eq_true rfl)) dX3_compare_88 ⟨(Nat.le_of_ble_eq_true rfl), (Nat.le_of_ble_eq_true rfl)⟩) (fun r_9 M1 H locs hw hP hS => ?_)
              obtain ⟨hM1, er_9⟩ := hw
              rw [hM1] at hP
              obtain rfl : r_9 = nI (rdn L X tb kk) := by rw [er_9]; unfold rdn; by_cases hz : kk < L tb; (rw [if_pos hz, if_pos hz]; exact (sX tb htb).2 kk hz); (rw [if_neg hz, if_neg hz])
              refine rw_iald hE hP 0 ((fO oo hoo).2.1) rfl (by decide) dX3_compare_91 (rdn_lt sG htb kk) ?_
              refine rw_i (v := rko g oo (rdn L X tb kk)) ((sO oo hoo).2.1 _ (rdn_lt sG htb kk)) ?_
              refine lv_istore (lv' := [(10, .int (rko g oo (rdn L X tb kk))), (9, .int (rko g oo (rdn L X ta kk))), (4, .ref (b 3 oo)), (5, .ref (b 6 ta)), (6, .ref (b 6 tb)), (7, .int (nI mm)), (8, .int (nI kk))]) hx hb dX3_compare_92 hl (by decide) rfl (fun ls hl => ?_)
              refine lv_iload hx hb dX3_compare_94 (lv_at hl 1 rfl) ?_
              refine lv_iload hx hb dX3_compare_96 (lv_at hl 0 rfl) ?_
              refine lv_icmp_eq (tgt := 114) hx hb dX3_compare_98 (by decide) (fun c_98 => ?_) (fun c_98 => ?_)
              · refine lv_iinc (v := nI (kk + 1)) (lv' := [(8, .int (nI (kk + 1))), (10, .int (rko g oo (rdn L X tb kk))), (9, .int (rko g oo (rdn L X ta kk))), (4, .ref (b 3 oo)), (5, .ref (b 6 ta)), (6, .ref (b 6 tb)), (7, .int (nI mm))]) hx hb dX3_compare_114 hl (k := 6) rfl (nI_1 kk) (by decide) rfl (fun ls hl => ?_)
                refine lv_goto (tgt := 57) hx hb dX3_compare_117 (by decide) ?_
                exact ih_57 (kk + 1) (by omega) (by rw [hv, cmpf_step (by omega), if_pos (show (fun k => rko g oo (rdn L X ta k)) kk = (fun k => rko g oo (rdn L X tb k)) kk from c_98)]) (by omega) H locs hP hS ls (lv_sub hl [3, 4, 5, 6, 0] rfl)
              · refine lv_iload hx hb dX3_compare_101 (lv_at hl 1 rfl) ?_
                refine lv_iload hx hb dX3_compare_103 (lv_at hl 0 rfl) ?_
                refine lv_icmp_ge (tgt := 112) hx hb dX3_compare_105 (by decide) (fun c_105 => ?_) (fun c_105 => ?_)
                · refine lv_iconst (v := 1) hx hb dX3_compare_112 (by decide) ?_
                  rw [hQ]
                  exact mw_iret (v := 1) hE hr hlocks hP hS dX3_compare_113 (⟨rfl, Or.inr ⟨oo, ta, tb, hoo, hta, htb, rfl, rfl, rfl, by rw [hv, cmpf_step (by omega), if_neg (show ¬ (fun k => rko g oo (rdn L X ta k)) kk = (fun k => rko g oo (rdn L X tb k)) kk from c_98), if_neg (show ¬ (fun k => rko g oo (rdn L X ta k)) kk < (fun k => rko g oo (rdn L X tb k)) kk from Int32.not_lt.mpr c_105)]⟩⟩)
                · refine lv_iconst (v := (-1)) hx hb dX3_compare_108 (by decide) ?_
                  refine lv_goto (tgt := 113) hx hb dX3_compare_109 (by decide) ?_
                  rw [hQ]
                  exact mw_iret (v := (-1)) hE hr hlocks hP hS dX3_compare_113 (⟨rfl, Or.inr ⟨oo, ta, tb, hoo, hta, htb, rfl, rfl, rfl, by rw [hv, cmpf_step (by omega), if_neg (show ¬ (fun k => rko g oo (rdn L X ta k)) kk = (fun k => rko g oo (rdn L X tb k)) kk from c_98), if_pos (show (fun k => rko g oo (rdn L X ta k)) kk < (fun k => rko g oo (rdn L X tb k)) kk from Int32.not_le.mp c_105)]⟩⟩)
        exact lp_57 (50) 0 (by omega) (rfl) (by omega) _ _ hP hS ls (lv_sub hl [4, 3, 2, 1, 0] rfl)
      · skip
        refine lv_astoreN (lv' := [(6, .null), (5, .ref (b 6 ta)), (4, .ref (b 3 oo)), (0, .ref (h 0)), (1, .int (nI oo)), (2, .int (nI ta)), (3, .int z)]) hx hb dX3_compare_19 hl (by decide) rfl (fun ls hl => ?_)
        refine lv_aload hx hb dX3_compare_21 (lv_at hl 2 rfl) ?_
        refine lv_ifnull hx hb dX3_compare_23 ?_
        refine lv_aload hx hb dX3_compare_26 (lv_at hl 1 rfl) ?_
        refine lv_ifnull hx hb dX3_compare_28 ?_
        refine lv_aloadN hx hb dX3_compare_31 (lv_at hl 0 rfl) ?_
        refine lv_ifnonnullN hx hb dX3_compare_33 ?_
        refine lv_bipush (v := (-2)) hx hb dX3_compare_36 (by decide) ?_
        rw [hQ]
        exact mw_iret (v := (-2)) hE hr hlocks hP hS dX3_compare_38 (⟨rfl, Or.inl ⟨fun q => hq_6 q.2.2, rfl⟩⟩)
    · skip
      refine lv_astoreN (lv' := [(5, .null), (4, .ref (b 3 oo)), (0, .ref (h 0)), (1, .int (nI oo)), (2, .int y), (3, .int z)]) hx hb dX3_compare_12 hl (by decide) rfl (fun ls hl => ?_)
      refine lv_aload_n hx hb dX3_compare_14 rfl (lv_at hl 2 rfl) ?_
      refine lv_iload_n hx hb dX3_compare_15 rfl (lv_at hl 5 rfl) ?_
      refine mw_callq hP hS hA (va_runV (As := [.int z]) (rest := []) ⟨hx, hb, hml, hE.2.2.2.1, hE.2.2.1⟩ (tX3_textAt l D k _ _ h (fun j => nI (n (j - 4))) (n 2) (b 6) z hb2 f0 f3) (cwV 1 hE.2.2.1 gX3_compare_X3_textAt rfl rfl rfl (by decide +kernel) ⟨(Nat.le_of_ble_eq_true rfl), (Nat.le_of_ble_eq_true rfl)⟩) (mw_preV hE hP (ci := 4) rfl rfl f0 [.int z]) rfl rfl hl.1 rfl (lv_room (Nat.le_of_ble_eq_true rfl)) dX3_compare_16 ⟨(Nat.le_of_ble_eq_true rfl), (Nat.le_of_ble_eq_true rfl)⟩) (fun r_12 M1 H locs hw hP hS => ?_)
      obtain ⟨hM1, hw⟩ := hw
      rw [hM1] at hP
      rcases hw with ⟨tb, htb, rfl, rfl⟩ | ⟨hq_13, rfl⟩
      · skip
        refine lv_astore (lv' := [(6, .ref (b 6 tb)), (5, .null), (4, .ref (b 3 oo)), (0, .ref (h 0)), (1, .int (nI oo)), (2, .int y), (3, .int (nI tb))]) hx hb dX3_compare_19 hl (by decide) rfl (fun ls hl => ?_)
        refine lv_aload hx hb dX3_compare_21 (lv_at hl 2 rfl) ?_
        refine lv_ifnull hx hb dX3_compare_23 ?_
        refine lv_aloadN hx hb dX3_compare_26 (lv_at hl 1 rfl) ?_
        refine lv_ifnullN (tgt := 36) hx hb dX3_compare_28 (by decide) ?_
        refine lv_bipush (v := (-2)) hx hb dX3_compare_36 (by decide) ?_
        rw [hQ]
        exact mw_iret (v := (-2)) hE hr hlocks hP hS dX3_compare_38 (⟨rfl, Or.inl ⟨fun q => hq_4 q.2.1, rfl⟩⟩)
      · skip
        refine lv_astoreN (lv' := [(6, .null), (5, .null), (4, .ref (b 3 oo)), (0, .ref (h 0)), (1, .int (nI oo)), (2, .int y), (3, .int z)]) hx hb dX3_compare_19 hl (by decide) rfl (fun ls hl => ?_)
        refine lv_aload hx hb dX3_compare_21 (lv_at hl 2 rfl) ?_
        refine lv_ifnull hx hb dX3_compare_23 ?_
        refine lv_aloadN hx hb dX3_compare_26 (lv_at hl 1 rfl) ?_
        refine lv_ifnullN (tgt := 36) hx hb dX3_compare_28 (by decide) ?_
        refine lv_bipush (v := (-2)) hx hb dX3_compare_36 (by decide) ?_
        rw [hQ]
        exact mw_iret (v := (-2)) hE hr hlocks hP hS dX3_compare_38 (⟨rfl, Or.inl ⟨fun q => hq_4 q.2.1, rfl⟩⟩)
  · skip
    refine lv_astoreN (lv' := [(4, .null), (0, .ref (h 0)), (1, .int x), (2, .int y), (3, .int z)]) hx hb dX3_compare_5 hl (by decide) rfl (fun ls hl => ?_)
    refine lv_aload_n hx hb dX3_compare_7 rfl (lv_at hl 1 rfl) ?_
    refine lv_iload_n hx hb dX3_compare_8 rfl (lv_at hl 3 rfl) ?_
    refine mw_callq hP hS hA (va_runV (As := [.int y]) (rest := []) ⟨hx, hb, hml, hE.2.2.2.1, hE.2.2.1⟩ (tX3_textAt l D k _ _ h (fun j => nI (n (j - 4))) (n 2) (b 6) y hb2 f0 f3) (cwV 1 hE.2.2.1 gX3_compare_X3_textAt rfl rfl rfl (by decide +kernel) ⟨(Nat.le_of_ble_eq_true rfl), (Nat.le_of_ble_eq_true rfl)⟩) (mw_preV hE hP (ci := 4) rfl rfl f0 [.int y]) rfl rfl hl.1 rfl (lv_room (Nat.le_of_ble_eq_true rfl)) dX3_compare_9 ⟨(Nat.le_of_ble_eq_true rfl), (Nat.le_of_ble_eq_true rfl)⟩) (fun r_14 M1 H locs hw hP hS => ?_)
    obtain ⟨hM1, hw⟩ := hw
    rw [hM1] at hP
    rcases hw with ⟨ta, hta, rfl, rfl⟩ | ⟨hq_15, rfl⟩
    · skip
      refine lv_astore (lv' := [(5, .ref (b 6 ta)), (4, .null), (0, .ref (h 0)), (1, .int x), (2, .int (nI ta)), (3, .int z)]) hx hb dX3_compare_12 hl (by decide) rfl (fun ls hl => ?_)
      refine lv_aload_n hx hb dX3_compare_14 rfl (lv_at hl 2 rfl) ?_
      refine lv_iload_n hx hb dX3_compare_15 rfl (lv_at hl 5 rfl) ?_
      refine mw_callq hP hS hA (va_runV (As := [.int z]) (rest := []) ⟨hx, hb, hml, hE.2.2.2.1, hE.2.2.1⟩ (tX3_textAt l D k _ _ h (fun j => nI (n (j - 4))) (n 2) (b 6) z hb2 f0 f3) (cwV 1 hE.2.2.1 gX3_compare_X3_textAt rfl rfl rfl (by decide +kernel) ⟨(Nat.le_of_ble_eq_true rfl), (Nat.le_of_ble_eq_true rfl)⟩) (mw_preV hE hP (ci := 4) rfl rfl f0 [.int z]) rfl rfl hl.1 rfl (lv_room (Nat.le_of_ble_eq_true rfl)) dX3_compare_16 ⟨(Nat.le_of_ble_eq_true rfl), (Nat.le_of_ble_eq_true rfl)⟩) (fun r_16 M1 H locs hw hP hS => ?_)
      obtain ⟨hM1, hw⟩ := hw
      rw [hM1] at hP
      rcases hw with ⟨tb, htb, rfl, rfl⟩ | ⟨hq_17, rfl⟩
      · skip
        refine lv_astore (lv' := [(6, .ref (b 6 tb)), (5, .ref (b 6 ta)), (4, .null), (0, .ref (h 0)), (1, .int x), (2, .int (nI ta)), (3, .int (nI tb))]) hx hb dX3_compare_19 hl (by decide) rfl (fun ls hl => ?_)
        refine lv_aloadN hx hb dX3_compare_21 (lv_at hl 2 rfl) ?_
        refine lv_ifnullN (tgt := 36) hx hb dX3_compare_23 (by decide) ?_
        refine lv_bipush (v := (-2)) hx hb dX3_compare_36 (by decide) ?_
        rw [hQ]
        exact mw_iret (v := (-2)) hE hr hlocks hP hS dX3_compare_38 (⟨rfl, Or.inl ⟨fun q => hq_2 q.1, rfl⟩⟩)
      · skip
        refine lv_astoreN (lv' := [(6, .null), (5, .ref (b 6 ta)), (4, .null), (0, .ref (h 0)), (1, .int x), (2, .int (nI ta)), (3, .int z)]) hx hb dX3_compare_19 hl (by decide) rfl (fun ls hl => ?_)
        refine lv_aloadN hx hb dX3_compare_21 (lv_at hl 2 rfl) ?_
        refine lv_ifnullN (tgt := 36) hx hb dX3_compare_23 (by decide) ?_
        refine lv_bipush (v := (-2)) hx hb dX3_compare_36 (by decide) ?_
        rw [hQ]
        exact mw_iret (v := (-2)) hE hr hlocks hP hS dX3_compare_38 (⟨rfl, Or.inl ⟨fun q => hq_2 q.1, rfl⟩⟩)
    · skip
      refine lv_astoreN (lv' := [(5, .null), (4, .null), (0, .ref (h 0)), (1, .int x), (2, .int y), (3, .int z)]) hx hb dX3_compare_12 hl (by decide) rfl (fun ls hl => ?_)
      refine lv_aload_n hx hb dX3_compare_14 rfl (lv_at hl 2 rfl) ?_
      refine lv_iload_n hx hb dX3_compare_15 rfl (lv_at hl 5 rfl) ?_
      refine mw_callq hP hS hA (va_runV (As := [.int z]) (rest := []) ⟨hx, hb, hml, hE.2.2.2.1, hE.2.2.1⟩ (tX3_textAt l D k _ _ h (fun j => nI (n (j - 4))) (n 2) (b 6) z hb2 f0 f3) (cwV 1 hE.2.2.1 gX3_compare_X3_textAt rfl rfl rfl (by decide +kernel) ⟨(Nat.le_of_ble_eq_true rfl), (Nat.le_of_ble_eq_true rfl)⟩) (mw_preV hE hP (ci := 4) rfl rfl f0 [.int z]) rfl rfl hl.1 rfl (lv_room (Nat.le_of_ble_eq_true rfl)) dX3_compare_16 ⟨(Nat.le_of_ble_eq_true rfl), (Nat.le_of_ble_eq_true rfl)⟩) (fun r_18 M1 H locs hw hP hS => ?_)
      obtain ⟨hM1, hw⟩ := hw
      rw [hM1] at hP
      rcases hw with ⟨tb, htb, rfl, rfl⟩ | ⟨hq_19, rfl⟩
      · skip
        refine lv_astore (lv' := [(6, .ref (b 6 tb)), (5, .null), (4, .null), (0, .ref (h 0)), (1, .int x), (2, .int y), (3, .int (nI tb))]) hx hb dX3_compare_19 hl (by decide) rfl (fun ls hl => ?_)
        refine lv_aloadN hx hb dX3_compare_21 (lv_at hl 2 rfl) ?_
        refine lv_ifnullN (tgt := 36) hx hb dX3_compare_23 (by decide) ?_
        refine lv_bipush (v := (-2)) hx hb dX3_compare_36 (by decide) ?_
        rw [hQ]
        exact mw_iret (v := (-2)) hE hr hlocks hP hS dX3_compare_38 (⟨rfl, Or.inl ⟨fun q => hq_2 q.1, rfl⟩⟩)
      · skip
        refine lv_astoreN (lv' := [(6, .null), (5, .null), (4, .null), (0, .ref (h 0)), (1, .int x), (2, .int y), (3, .int z)]) hx hb dX3_compare_19 hl (by decide) rfl (fun ls hl => ?_)
        refine lv_aloadN hx hb dX3_compare_21 (lv_at hl 2 rfl) ?_
        refine lv_ifnullN (tgt := 36) hx hb dX3_compare_23 (by decide) ?_
        refine lv_bipush (v := (-2)) hx hb dX3_compare_36 (by decide) ?_
        rw [hQ]
        exact mw_iret (v := (-2)) hE hr hlocks hP hS dX3_compare_38 (⟨rfl, Or.inl ⟨fun q => hq_2 q.1, rfl⟩⟩)
