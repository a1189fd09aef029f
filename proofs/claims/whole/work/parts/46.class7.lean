set_option maxRecDepth 20000 in
theorem mX3_page_c9 : Cond.classLink RX3 9 RX1 ∈ wsX3_page := by decide +kernel
set_option maxRecDepth 20000 in
theorem mX3_page_f11 : Cond.fieldLink RX3 11 "CodePages" "pages" "[LCodePages$Page;" ∈ wsX3_page := by decide +kernel
set_option maxRecDepth 20000 in
theorem mX3_page_f31 : Cond.fieldLink RX3 31 "CodePages" "pageCount" "I" ∈ wsX3_page := by decide +kernel
set_option maxRecDepth 20000 in
theorem iX3_page_X1 : ∀ w ∈ u_ws RX1 TX1 2, w ∈ wsX3_page := by decide +kernel
set_option maxRecDepth 20000 in
theorem iX3_page_X3 : ∀ w ∈ u_ws RX3 TX3 8, w ∈ wsX3_page := by decide +kernel
set_option maxRecDepth 20000 in
theorem mX3_page_imyX1_init : Cond.instanceMethod yX1_init ∈ wsX3_page := by decide +kernel
set_option maxRecDepth 20000 in
theorem mX3_page_iniRX1 : Cond.initialized RX1 ∈ wsX3_page := by decide +kernel
set_option maxRecDepth 20000 in
theorem mX3_page_instRX1 : Cond.instantiable RX1 2 ∈ wsX3_page := by decide +kernel
set_option maxRecDepth 20000 in
theorem mX3_page_ml48 : Cond.methodLink RX3 48 yX1_init ∈ wsX3_page := by decide +kernel
set_option maxHeartbeats 4000000 in
set_option maxRecDepth 100000 in
theorem tX3_page (l : Launch) (D : va_G) (k : Nat → ClassId) (M : mw) (sz : Nat) (h : Nat → Nat) (b : Nat → Nat → Nat) (T : Nat → Nat × Nat) (n : Nat → Nat) (c9 : Nat → Nat → Nat → Int32) (g : Nat → Nat → Int32) (L : Nat → Nat) (X : Nat → Nat → Nat) (x : Int32) (hR : cp_R k h b n c9 M) (hT : cp_T h b T n) (hn9 : mo_B n) (hs : sm n c9 g L X) : Met l yX3_page wsX3_page ({ frames := 2, cells := 2, slots := 258, locals := 43 }) (va_Pc [.ref (h 0), .int x] (mw_U D vwCl (TY k) M sz)) (va_Qi (fun r M1 => ∃ b1 T1 n1 c1 g1, cp_R k h b1 n1 c1 M1 ∧ cp_T h b1 T1 n1 ∧ sm n1 c1 g1 L X ∧ R_page n g x r n1 g1) (mw_B D vwCl M sz) (mw_A M sz)) 2 258 (mw_A M sz) := by
  refine mw_met (cc := cX3_page) (maxL := 2) (ret := (some .int)) (lv := [(0, .ref (h 0)), (1, .int x)]) (by decide) rfl (Nat.le_of_ble_eq_true rfl) rfl ?_
  intro p e s m below meth c ls hE hr hlocks hin hml hsz hP hS hl
  subst hsz
  have hx := hE.1
  have hb := hE.2.1
  have hA : ∀ q, s.heap.size ≤ q → mw_A M s.heap.size q := fun q h => Or.inr h
  obtain ⟨hb0, hb1, hb2, hb3⟩ := id hn9
  obtain ⟨⟨f0, f1, f2, f3, f4⟩, fP, fO, fX⟩ := id hR
  obtain ⟨sP, sO, sX, sG, sL⟩ := id hs
  refine lv_iload_n hx hb dX3_page_0 rfl (lv_at hl 1 rfl) ?_
  refine mw_calli hP hS hA (va_runS (As := [.int x]) (rest := []) ⟨hx, hb, hml, hE.2.2.2.1, hE.2.2.1⟩ (tX3_isKind l D k _ _ x) (va_cwS 1 hE.2.2.1 gX3_page_X3_isKind rfl rfl rfl (by decide +kernel) ⟨(Nat.le_of_ble_eq_true rfl), (Nat.le_of_ble_eq_true rfl)⟩) (mw_preS hE hP [.int x]) rfl rfl hl.1 rfl (lv_room (Nat.le_of_ble_eq_true rfl)) dX3_page_1 ⟨(Nat.le_of_ble_eq_true rfl), (Nat.le_of_ble_eq_true rfl)⟩) (fun r_1 M1 H locs hw hP hS => ?_)
  obtain ⟨hM1, hw⟩ := hw
  rw [hM1] at hP
  rcases hw with ⟨hq_2, rfl⟩ | ⟨hq_2, rfl⟩
  · obtain ⟨z, hz, rfl⟩ := vp_in_of hq_2 (by omega)
    skip
    refine lv_if_ne (tgt := 10) hx hb dX3_page_4 (by decide) (fun _ => ?_) (fun c9 => absurd c9 (by decide))
    refine lv_aload_n hx hb dX3_page_10 rfl (lv_at hl 0 rfl) ?_
    refine mw_get (v := .int (nI (n 0))) (ci := 4) (T := TX3) (N := 8) (C := RX3) hE iX3_page_X3 hP f0 rfl 4 (by decide) (hE.2.2.1 _ mX3_page_f31) rfl rfl dX3_page_11 ?_
    refine lv_bipush (v := nI 12) hx hb dX3_page_14 (by decide) ?_
    refine lv_icmp_lt (tgt := 21) hx hb dX3_page_16 (by decide) (fun c_16 => ?_) (fun c_16 => ?_)
    · have k_16 : (n 0) < 12 := nn_lt (a := (n 0)) (b := 12) c_16 (by omega) (by omega)
      refine lv_aload_n hx hb dX3_page_21 rfl (lv_at hl 0 rfl) ?_
      refine mw_get (v := .ref (h 1)) (ci := 4) (T := TX3) (N := 8) (C := RX3) hE iX3_page_X3 hP f0 rfl 0 (by decide) (hE.2.2.1 _ mX3_page_f11) rfl rfl dX3_page_22 ?_
      refine lv_aload_n hx hb dX3_page_25 rfl (lv_at hl 0 rfl) ?_
      refine mw_get (v := .int (nI (n 0))) (ci := 4) (T := TX3) (N := 8) (C := RX3) hE iX3_page_X3 hP f0 rfl 4 (by decide) (hE.2.2.1 _ mX3_page_f31) rfl rfl dX3_page_26 ?_
      refine mw_new (ci := 2) (fs := [.null, .int 0]) (C := RX1) (T := TX1) (N := 2) hE iX3_page_X1 tyX1 tyX1_ok (hE.2.2.1 _ mX3_page_c9) (hE.2.2.1 _ mX3_page_instRX1) (hE.2.2.1 _ mX3_page_iniRX1) hP hS hA rfl (by decide +kernel) (by decide) (by decide) dX3_page_29 (fun a9 H hMa9 hP hS => ?_)
      refine rw_cs (k := 1) (n := 2) (by decide) (by decide) ?_
      obtain ⟨M_5, eM_5⟩ : ∃ Z, Z = mw_up M a9 (.inr (2, [.null, .int 0])) := ⟨_, rfl⟩
      have hP : mw_Q (mw_A M s.heap.size) D vwCl M_5 H := by rw [eM_5]; exact hP
      have nf_6_a9 : (h 0) ≠ a9 := mw_ne hMa9 f0
      have f_6 : M_5 (h 0) = some (.inr (4, [.ref (h 1), .ref (h 2), .ref (h 3), .ref (h 4), .int (nI (n 0)), .int (nI (n 1)), .int (nI (n 2)), .int (nI (n 3))])) := by rw [eM_5, mw_up_n nf_6_a9]; exact f0
      have nf_7_a9 : (h 1) ≠ a9 := mw_ne hMa9 f1
      have f_7 : M_5 (h 1) = some (.inl ((k 2), 12, .inr (.inr (.inr (.inr (fun p => if p < n 0 then some (b 1 p) else none)))))) := by rw [eM_5, mw_up_n nf_7_a9]; exact f1
      have f_8 : M_5 a9 = some (.inr (2, [.null, .int 0])) := by rw [eM_5]; exact mw_up_s
      refine lv_dup hx hb dX3_page_32 rfl ?_
      refine lv_iload_n hx hb dX3_page_33 rfl (lv_at hl 1 rfl) ?_
      refine mw_callv hP hS hA (va_runI (As := [.int (nI z)]) (rest := [.ref a9, .int (nI (n 0)), .ref (h 1)]) ⟨hx, hb, hml, hE.2.2.2.1, hE.2.2.1⟩ (tX1_init l D k _ _ a9 z hz f_8) (cwI 1 hE.2.2.1 gX3_page_X1_init rfl rfl rfl (hE.2.2.1 _ mX3_page_iniRX1) (hE.2.2.1 _ mX3_page_ml48) (hE.2.2.1 _ mX3_page_imyX1_init) rfl (by decide +kernel) ⟨(Nat.le_of_ble_eq_true rfl), (Nat.le_of_ble_eq_true rfl)⟩) (mw_preS hE hP [.ref a9, .int (nI z)]) rfl rfl hl.1 rfl (lv_room (Nat.le_of_ble_eq_true rfl)) dX3_page_34 ⟨(Nat.le_of_ble_eq_true rfl), (Nat.le_of_ble_eq_true rfl)⟩) (fun M2 H locs hw hP hS => ?_)
      refine rw_cs (k := 2) (n := 258) (by decide) (by decide) ?_
      obtain ⟨q9, v_q9, w1, w2, w3⟩ := hw
      have n_a9_q9 : a9 ≠ q9 := mw_ne v_q9 f_8
      have n_h0_q9 := mw_ne v_q9 f_6
      have k_h0 := (w3 (h 0) nf_6_a9 n_h0_q9).trans f_6
      have n_h1_q9 := mw_ne v_q9 f_7
      have k_h1 := (w3 (h 1) nf_7_a9 n_h1_q9).trans f_7
      refine rw_aast hE hP hS 2 2 k_h1 rfl w1 rfl (by decide) dX3_page_37 (by omega) (fun H locs hP hS => ?_)
      obtain ⟨M_9, eM_9⟩ : ∃ Z, Z = mw_up M2 (h 1) (.inl ((k 2), 12, .inr (.inr (.inr (.inr (va_up (fun p => if p < n 0 then some (b 1 p) else none) (n 0) (some a9))))))) := ⟨_, rfl⟩
      have hP : mw_Q (mw_A M s.heap.size) D vwCl M_9 H := by rw [eM_9]; exact hP
      have f_10 : M_9 (h 0) = some (.inr (4, [.ref (h 1), .ref (h 2), .ref (h 3), .ref (h 4), .int (nI (n 0)), .int (nI (n 1)), .int (nI (n 2)), .int (nI (n 3))])) := by rw [eM_9, mw_up_n (fun h => by have h1 := k_h0; rw [h, k_h1] at h1; cases h1)]; exact k_h0
      have f_11 : M_9 (h 1) = some (.inl ((k 2), 12, .inr (.inr (.inr (.inr (va_up (fun p => if p < n 0 then some (b 1 p) else none) (n 0) (some a9))))))) := by rw [eM_9]; exact mw_up_s
      have f_12 : M_9 a9 = some (.inr (2, [.ref q9, .int (nI 63)])) := by rw [eM_9, mw_up_n (Ne.symm nf_7_a9)]; exact w1
      refine lv_aload_n hx hb dX3_page_38 rfl (lv_at hl 0 rfl) ?_
      refine lv_dup hx hb dX3_page_39 rfl ?_
      refine mw_get (v := .int (nI (n 0))) (ci := 4) (T := TX3) (N := 8) (C := RX3) hE iX3_page_X3 hP f_10 rfl 4 (by decide) (hE.2.2.1 _ mX3_page_f31) rfl rfl dX3_page_40 ?_
      refine lv_dup_x1 hx hb dX3_page_43 rfl rfl ?_
      refine lv_iconst (v := 1) hx hb dX3_page_44 (by decide) ?_
      refine lv_iadd hx hb dX3_page_45 ?_
      refine rw_i (v := nI ((n 0) + 1)) (nI_1 _) ?_
      refine mw_put (ty := .int) (v := .int (nI ((n 0) + 1))) (ci := 4) (T := TX3) (N := 8) (C := RX3) hE iX3_page_X3 tyX3 tyX3_ok nmX3 hP hS f_10 rfl 4 (by decide) (hE.2.2.1 _ mX3_page_f31) rfl rfl (by decide +kernel) rfl rfl (Nat.le_of_ble_eq_true rfl) dX3_page_46 (fun H locs hP hS => ?_)
      obtain ⟨M_13, eM_13⟩ : ∃ Z, Z = mw_up M_9 (h 0) (.inr (4, [.ref (h 1), .ref (h 2), .ref (h 3), .ref (h 4), .int (nI ((n 0) + 1)), .int (nI (n 1)), .int (nI (n 2)), .int (nI (n 3))])) := ⟨_, rfl⟩
      have hP : mw_Q (mw_A M s.heap.size) D vwCl M_13 H := by rw [eM_13]; exact hP
      have f_14 : M_13 (h 0) = some (.inr (4, [.ref (h 1), .ref (h 2), .ref (h 3), .ref (h 4), .int (nI ((n 0) + 1)), .int (nI (n 1)), .int (nI (n 2)), .int (nI (n 3))])) := by rw [eM_13]; exact mw_up_s
      have f_15 : M_13 (h 1) = some (.inl ((k 2), 12, .inr (.inr (.inr (.inr (va_up (fun p => if p < n 0 then some (b 1 p) else none) (n 0) (some a9))))))) := by rw [eM_13, mw_up_n (fun h => by have h1 := f_11; rw [h, f_10] at h1; cases h1)]; exact f_11
      have f_16 : M_13 a9 = some (.inr (2, [.ref q9, .int (nI 63)])) := by rw [eM_13, mw_up_n (Ne.symm nf_6_a9)]; exact f_12
      have hfin : ∀ y, y ≠ h 0 → y ≠ h 1 → y ≠ a9 → y ≠ q9 → M_13 y = M y := fun y h1 h2 h3 h4 => by rw [eM_13, mw_up_n h1, eM_9, mw_up_n h2, w3 y h3 h4, eM_5, mw_up_n h3]
      have z_q9 : M q9 = none := by have hh := v_q9; rw [eM_5, mw_up_n (Ne.symm n_a9_q9)] at hh; exact hh
      have y_q9 := (show M_13 q9 = M2 q9 by rw [eM_13, mw_up_n (Ne.symm n_h0_q9), eM_9, mw_up_n (Ne.symm n_h1_q9)]).trans w2
      obtain ⟨hRn, hTn⟩ := cp_addP hR hT hMa9 z_q9 n_a9_q9 f_14 f_15 f_16 y_q9 hfin
      exact mw_iret (v := nI (n 0)) hE hr hlocks hP hS dX3_page_49 (⟨_, _, _, _, _, hRn, hTn, sm_page hs hz, Or.inr (Or.inr ⟨z, hz, rfl, by omega, rfl, rfl, rfl⟩)⟩)
    · have k_16 : 12 ≤ (n 0) := nn_nlt (a := (n 0)) (b := 12) c_16 (by omega) (by omega)
      refine lv_iconst (v := (-1)) hx hb dX3_page_19 (by decide) ?_
      refine rw_cs (k := 2) (n := 258) (by decide) (by decide) ?_
      exact mw_iret (v := (-1)) hE hr hlocks hP hS dX3_page_20 (⟨b, T, n, c9, g, hR, hT, hs, Or.inr (Or.inl ⟨vp_in_nI hz (by omega), by omega, rfl, rfl, rfl⟩)⟩)
  · skip
    refine lv_if_ne (tgt := 10) hx hb dX3_page_4 (by decide) (fun c9 => absurd (by decide) c9) (fun _ => ?_)
    refine lv_bipush (v := (-4)) hx hb dX3_page_7 (by decide) ?_
    refine rw_cs (k := 2) (n := 258) (by decide) (by decide) ?_
    exact mw_iret (v := (-4)) hE hr hlocks hP hS dX3_page_9 (⟨b, T, n, c9, g, hR, hT, hs, Or.inl ⟨hq_2, rfl, rfl, rfl⟩⟩)
