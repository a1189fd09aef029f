set_option maxRecDepth 20000 in
theorem mX3_page_c9 : Cond.classLink RX3 9 RX1 ∈ wsX3_page := by decide +kernel
set_option maxRecDepth 20000 in
theorem mX3_page_f11 : Cond.fieldLink RX3 11 "CodePages" "pages" "[LCodePages$Page;" ∈ wsX3_page := by decide +kernel
set_option maxRecDepth 20000 in
theorem mX3_page_f31 : Cond.fieldLink RX3 31 "CodePages" "pageCount" "I" ∈ wsX3_page := by decide +kernel
set_option maxRecDepth 20000 in
theorem iX3_page_X1 : ∀ w ∈ u_ws RX1 TX1 2, w ∈ wsX3_page := by decide +kernel
set_option maxRecDepth 20000 in
theorem iX3_page_X3 : ∀ w ∈ u_ws RX3 TX3 8, w ∈ wsX3_page := by decide +kernel
set_option maxRecDepth 20000 in
theorem mX3_page_imyX1_init : Cond.instanceMethod yX1_init ∈ wsX3_page := by decide +kernel
set_option maxRecDepth 20000 in
theorem mX3_page_iniRX1 : Cond.initialized RX1 ∈ wsX3_page := by decide +kernel
set_option maxRecDepth 20000 in
theorem mX3_page_instRX1 : Cond.instantiable RX1 2 ∈ wsX3_page := by decide +kernel
set_option maxRecDepth 20000 in
theorem mX3_page_ml48 : Cond.methodLink RX3 48 yX1_init ∈ wsX3_page := by decide +kernel
set_option maxHeartbeats 4000000 in
set_option maxRecDepth 100000 in
theorem tX3_page (l : Launch) (D : va_G) (k : Nat → ClassId) (M : mw) (sz : Nat) (h : Nat → Nat) (b : Nat → Nat → Nat) (T : Nat → Nat × Nat) (n : Nat → Nat) (c9 : Nat → Nat → Nat → Int32) (g : Nat → Nat → Int32) (L : Nat → Nat) (X : Nat → Nat → Nat) (x : Int32) (hR : cp_R k h b n c9 M) (hT : cp_T h b T n) (hn9 : mo_B n) (hs : sm n c9 g L X) : Met l yX3_page wsX3_page ({ frames := 2, cells := 2, slots := 258, locals := 43 }) (va_Pc [.ref (h 0), .int x] (mw_U D vwCl (TY k) M sz)) (va_Qi (fun r M1 => ∃ b1 T1 n1 c1 g1, cp_R k h b1 n1 c1 M1 ∧ cp_T h b1 T1 n1 ∧ sm n1 c1 g1 L X ∧ R_page n g x r n1 g1) (mw_B D vwCl M sz) (mw_A M sz)) 2 258 (mw_A M sz) := by
  refine mw_met (cc := cX3_page) (maxL := 2) (ret := (some .int)) (lv := [(0, .ref (h 0)), (1, .int x)]) (by decide) rfl (Nat.le_of_ble_eq_true rfl) rfl ?_
  intro p e s m below meth c ls hE hr hlocks hin hml hsz hP hS hl
  subst hsz
  have hx := hE.1
  have hb := hE.2.1
  have hA : ∀ q, s.heap.size ≤ q → mw_A M s.heap.size q := fun q h => Or.inr h
  obtain ⟨hb0, hb1, hb2, hb3⟩ := id hn9
  obtain ⟨⟨f0, f1, f2, f3, f4⟩, fP, fO, fX⟩ := id hR
  obtain ⟨sP, sO, sX, sG, sL⟩ := id hs
  refine lv_iload_n hx hb dX3_page_0 rfl (lv_at hl 1 rfl) ?_
  refine mw_calli hP hS hA (va_runS (As := [.int x]) (rest := []) ⟨hx, hb, hml, hE.2.2.2.1, hE.2.2.1⟩ (tX3_isKind l D k _ _ x) (va_cwS 1 hE.2.2.1 gX3_page_X3_isKind rfl rfl rfl (by decide +kernel) ⟨(Nat.le_of_ble_eq_true rfl), (Nat.le_of_ble_eq_true rfl)⟩) (mw_preS hE hP [.int x]) rfl rfl hl.1 rfl (lv_room (Nat.le_of_ble_eq_true rfl)) dX3_page_1 ⟨(Nat.le_of_ble_eq_true rfl), (Nat.le_of_ble_eq_true rfl)⟩) (fun r_1 M1 H locs hw hP hS => ?_)
  obtain ⟨hM1, hw⟩ := hw
  rw [hM1] at hP
  rcases hw with ⟨hq_2, rfl⟩ | ⟨hq_2, rfl⟩
  · obtain ⟨z, hz, rfl⟩ := vp_in_of hq_2 (by omega)
    skip
    refine lv_if_ne (tgt := 10) hx hb dX3_page_4 (by decide) (fun _ => ?_) (fun c9 => absurd c9 (by decide))
    refine lv_aload_n hx hb dX3_page_10 rfl (lv_at hl 0 rfl) ?_
    refine mw_get (v := .int (nI (n 0))) (ci := 4) (T := TX3) (N := 8) (C := RX3) hE iX3_page_X3 hP f0 rfl 4 (by decide) (hE.2.2.1 _ mX3_page_f31) rfl rfl dX3_page_11 ?_
    refine lv_bipush (v := nI 12) hx hb dX3_page_14 (by decide) ?_
    refine lv_icmp_lt (tgt := 21) hx hb dX3_page_16 (by decide) (fun c_16 => ?_) (fun c_16 => ?_)
    · have k_16 : (n 0) < 12 := nn_lt (a := (n 0)) (b := 12) c_16 (by omega) (by omega)
      refine lv_aload_n hx hb dX3_page_21 rfl (lv_at hl 0 rfl) ?_
      refine mw_get (v := .ref (h 1)) (ci := 4) (T := TX3) (N := 8) (C := RX3) hE iX3_page_X3 hP f0 rfl 0 (by decide) (hE.2.2.1 _ mX3_page_f11) rfl rfl dX3_page_22 ?_
      refine lv_aload_n hx hb dX3_page_25 rfl (lv_at hl 0 rfl) ?_
      refine mw_get (v := .int (nI (n 0))) (ci := 4) (T := TX3) (N := 8) (C := RX3) hE iX3_page_X3 hP f0 rfl 4 (by decide) (hE.2.2.1 _ mX3_page_f31) rfl rfl dX3_page_26 ?_
      refine mw_new (ci := 2) (fs := [.null, .int 0]) (C := RX1) (T := TX1) (N := 2) hE iX3_page_X1 tyX1 tyX1_ok (hE.2.2.1 _ mX3_page_c9) (hE.2.2.1 _ mX3_page_instRX1) (hE.2.2.1 _ mX3_page_iniRX1) hP hS hA rfl (by decide +kernel) (by decide) (by decide) dX3_page_29 (fun a9 H hMa9 hP hS => ?_)
      refine rw_cs (k := 1) (n := 2) (by decide) (by decide) ?_
      obtain ⟨M_5, eM_5⟩ : ∃ Z, Z = mw_up M a9 (.inr (2, [.null, .int 0])) := ⟨_, rfl⟩
      have hP : mw_Q (mw_A M s.heap.size) D vwCl M_5 H := by rw [eM_5]; exact hP
      have nf_6_a9 : (h 0) ≠ a9 := mw_ne hMa9 f0
      have f_6 : M_5 (h 0) = some (.inr (4, [.ref (h 1), .ref (h 2), .ref (h 3), .ref (h 4), .int (nI (n 0)), .int (nI (n 1)), .int (nI (n 2)), .int (nI (n 3))])) := by rw [eM_5, mw_up_n nf_6_a9]; exact f0
      have nf_7_a9 : (h 1) ≠ a9 := mw_ne hMa9 f1
      have f_7 : M_5 (h 1) = some (.inl ((k 2), 12, .inr (.inr (.inr (.inr (fun p => if p < n 0 then some (b 1 p) else none)))))) := by rw [eM_5, mw_up_n nf_7_a9]; exact f1
      have f_8 : M_5 a9 = some (.inr (2, [.null, .int 0])) := by rw [eM_5]; exact mw_up_s
      refine lv_dup hx hb dX3_page_32 rfl ?_
      refine lv_iload_n hx hb dX3_page_33 rfl (lv_at hl 1 rfl) ?_
      refine mw_callv hP hS hA (va_runI (As := [.int (nI z)]) (rest := [.ref a9, .int (nI (n 0)), .ref (h 1)]) ⟨hx, hb, hml, hE.2.2.2.1, hE.2.2.1⟩ (tX1_init l D k _ _ a9 z hz f_8) (cwI 1 hE.2.2.1 gX3_page_X1_init rfl rfl rfl (hE.2.2.1 _ mX3_page_iniRX1) (hE.2.2.1 _ mX3_page_ml48) (hE.2.2.1 _ mX3_page_imyX1_init) rfl (by decide +kernel) ⟨(Nat.le_of_ble_eq_true rfl), (Nat.le_of_ble_eq_true rfl)⟩) (mw_preS hE hP [.ref a9, .int (nI z)]) rfl rfl hl.1 rfl (lv_room (Nat.le_of_ble_eq_true rfl)) dX3_page_34 ⟨(Nat.le_of_ble_eq_true rfl), (Nat.le_of_ble_eq_true rfl)⟩) (fun M2 H locs hw hP hS => ?_)
      refine rw_cs (k := 2) (n := 258) (by decide) (by decide) ?_
      obtain ⟨q9, v_q9, w1, w2, w3⟩ := hw
      have n_a9_q9 : a9 ≠ q9 := mw_ne v_q9 f_8
      have n_h0_q9 := mw_ne v_q9 f_6
      have k_h0 := (w3 (h 0) nf_6_a9 n_h0_q9).trans f_6
      have n_h1_q9 := mw_ne v_q9 f_7
      have k_h1 := (w3 (h 1) nf_7_a9 n_h1_q9).trans f_7
      refine rw_aast hE hP hS 2 2 k_h1 rfl w1 rfl (by decide) dX3_page_37 (by omega) (fun H locs hP hS => ?_)
      obtain ⟨M_9, eM_9⟩ : ∃ Z, Z = mw_up M2 (h 1) (.inl ((k 2), 12, .inr (.inr (.inr (.inr (va_up (fun p => if p < n 0 then some (b 1 p) else none) (n 0) (some a9))))))) := ⟨_, rfl⟩
      have hP : mw_Q (mw_A M s.heap.size) D vwCl M_9 H := by rw [eM_9]; exact hP
      have f_10 : M_9 (h 0) = some (.inr (4, [.ref (h 1), .ref (h 2), .ref (h 3), .ref (h 4), .int (nI (n 0)), .int (nI (n 1)), .int (nI (n 2)), .int (nI (n 3))])) := by rw [eM_9, mw_up_n (fun h => by have h1 := k_h0; rw [h, k_h1] at h1; cases h1)]; exact k_h0
      have f_11 : M_9 (h 1) = some (.inl ((k 2), 12, .inr (.inr (.inr (.inr (va_up (fun p => if p < n 0 then some (b 1 p) else none) (n 0) (some a9))))))) := by rw [eM_9]; exact mw_up_s
      have f_12 : M_9 a9 = some (.inr (2, [.ref q9, .int (nI 63)])) := by rw [eM_9, mw_up_n (Ne.symm nf_7_a9)]; exact w1
      refine lv_aload_n hx hb dX3_page_38 rfl (lv_at hl 0 rfl) ?_
      refine lv_dup hx hb dX3_page_39 rfl ?_
      refine mw_get (v := .int (nI (n 0))) (ci := 4) (T := TX3) (N := 8) (C := RX3) hE iX3_page_X3 hP f_10 rfl 4 (by decide) (hE.2.2.1 _ mX3_page_f31) rfl rfl dX3_page_40 ?_
      refine lv_dup_x1 hx hb dX3_page_43 rfl rfl ?_
      refine lv_iconst (v := 1) hx hb dX3_page_44 (by decide) ?_
      refine lv_iadd hx hb dX3_page_45 ?_
      refine rw_i (v := nI ((n 0) + 1)) (nI_1 _) ?_
      refine mw_put (ty := .int) (v := .int (nI ((n 0) + 1))) (ci := 4) (T := TX3) (N := 8) (C := RX3) hE iX3_page_X3 tyX3 tyX3_ok nmX3 hP hS f_10 rfl 4 (by decide) (hE.2.2.1 _ mX3_page_f31) rfl rfl (by decide +kernel) rfl rfl (Nat.le_of_ble_eq_true rfl) dX3_page_46 (fun H locs hP hS => ?_)
      obtain ⟨M_13, eM_13⟩ : ∃ Z, Z = mw_up M_9 (h 0) (.inr (4, [.ref (h 1), .ref (h 2), .ref (h 3), .ref (h 4), .int (nI ((n 0) + 1)), .int (nI (n 1)), .int (nI (n 2)), .int (nI (n 3))])) := ⟨_, rfl⟩
      have hP : mw_Q (mw_A M s.heap.size) D vwCl M_13 H := by rw [eM_13]; exact hP
      have f_14 : M_13 (h 0) = some (.inr (4, [.ref (h 1), .ref (h 2), .ref (h 3), .ref (h 4), .int (nI ((n 0) + 1)), .int (nI (n 1)), .int (nI (n 2)), .int (nI (n 3))])) := by rw [eM_13]; exact mw_up_s
      have f_15 : M_13 (h 1) = some (.inl ((k 2), 12, .inr (.inr (.inr (.inr (va_up (fun p => if p < n 0 then some (b 1 p) else none) (n 0) (some a9))))))) := by rw [eM_13, mw_up_n (fun h => by have h1 := f_11; rw [h, f_10] at h1; cases h1)]; exact f_11
      have f_16 : M_13 a9 = some (.inr (2, [.ref q9, .int (nI 63)])) := by rw [eM_13, mw_up_n (Ne.symm nf_6_a9)]; exact f_12
      have hfin : ∀ y, y ≠ h 0 → y ≠ h 1 → y ≠ a9 → y ≠ q9 → M_13 y = M y := fun y h1 h2 h3 h4 => by rw [eM_13, mw_up_n h1, eM_9, mw_up_n h2, w3 y h3 h4, eM_5, mw_up_n h3]
      have z_q9 : M q9 = none := by have hh := v_q9; rw [eM_5, mw_up_n (Ne.symm n_a9_q9)] at hh; exact hh
      have y_q9 := (show M_13 q9 = M2 q9 by rw [eM_13, mw_up_n (Ne.symm n_h0_q9), eM_9, mw_up_n (Ne.symm n_h1_q9)]).trans w2
      obtain ⟨hRn, hTn⟩ := cp_addP hR hT hMa9 z_q9 n_a9_q9 f_14 f_15 f_16 y_q9 hfin
      exact mw_iret (v := nI (n 0)) hE hr hlocks hP hS dX3_page_49 (⟨_, _, _, _, _, hRn, hTn, sm_page hs hz, Or.inr (Or.inr ⟨z, hz, rfl, by omega, rfl, rfl, rfl⟩)⟩)
    · have k_16 : 12 ≤ (n 0) := nn_nlt (a := (n 0)) (b := 12) c_16 (by omega) (by omega)
      refine lv_iconst (v := (-1)) hx hb dX3_page_19 (by decide) ?_
      refine rw_cs (k := 2) (n := 258) (by decide) (by decide) ?_
      exact mw_iret (v := (-1)) hE hr hlocks hP hS dX3_page_20 (⟨b, T, n, c9, g, hR, hT, hs, Or.inr (Or.inl ⟨vp_in_nI hz (by omega), by omega, rfl, rfl, rfl⟩)⟩)
  · skip
    refine lv_if_ne (tgt := 10) hx hb dX3_page_4 (by decide) (fun c9 => absurd (by decide) c9) (fun _ => ?_)
    refine lv_bipush (v := (-4)) hx hb dX3_page_7 (by decide) ?_
    refine rw_cs (k := 2) (n := 258) (by decide) (by decide) ?_
    exact mw_iret (v := (-4)) hE hr hlocks hP hS dX3_page_9 (⟨b, T, n, c9, g, hR, hT, hs, Or.inl ⟨hq_2, rfl, rfl, rfl⟩⟩)

set_option maxRecDepth 20000 in
theorem mX3_text_c21 : Cond.classLink RX3 21 RX2 ∈ wsX3_text := by decide +kernel
set_option maxRecDepth 20000 in
theorem mX3_text_f23 : Cond.fieldLink RX3 23 "CodePages" "texts" "[LCodePages$Text;" ∈ wsX3_text := by decide +kernel
set_option maxRecDepth 20000 in
theorem mX3_text_f38 : Cond.fieldLink RX3 38 "CodePages" "textCount" "I" ∈ wsX3_text := by decide +kernel
set_option maxRecDepth 20000 in
theorem iX3_text_X2 : ∀ w ∈ u_ws RX2 TX2 2, w ∈ wsX3_text := by decide +kernel
set_option maxRecDepth 20000 in
theorem iX3_text_X3 : ∀ w ∈ u_ws RX3 TX3 8, w ∈ wsX3_text := by decide +kernel
set_option maxRecDepth 20000 in
theorem mX3_text_imyX2_init : Cond.instanceMethod yX2_init ∈ wsX3_text := by decide +kernel
set_option maxRecDepth 20000 in
theorem mX3_text_iniRX2 : Cond.initialized RX2 ∈ wsX3_text := by decide +kernel
set_option maxRecDepth 20000 in
theorem mX3_text_instRX2 : Cond.instantiable RX2 2 ∈ wsX3_text := by decide +kernel
set_option maxHeartbeats 4000000 in
set_option maxRecDepth 100000 in
theorem tX3_text (l : Launch) (D : va_G) (k : Nat → ClassId) (M : mw) (sz : Nat) (h : Nat → Nat) (b : Nat → Nat → Nat) (T : Nat → Nat × Nat) (n : Nat → Nat) (c9 : Nat → Nat → Nat → Int32) (g : Nat → Nat → Int32) (L : Nat → Nat) (X : Nat → Nat → Nat)  (hR : cp_R k h b n c9 M) (hT : cp_T h b T n) (hn9 : mo_B n) (hs : sm n c9 g L X) (hg9 : g 9 (n 2) = 0) : Met l yX3_text wsX3_text ({ frames := 2, cells := 2, slots := 42, locals := 32 }) (va_Pc [.ref (h 0)] (fun U => mw_U D vwCl (TY k) M sz U ∧ va_Nw wNest U)) (va_Qi (fun r M1 => ∃ b1 T1 n1 c1 L1, cp_R k h b1 n1 c1 M1 ∧ cp_T h b1 T1 n1 ∧ sm n1 c1 g L1 X ∧ R_text n r n1) (mw_B D vwCl M sz) (mw_A M sz)) 2 42 (mw_A M sz) := by
  refine mw_metN (w := wNest) (cc := cX3_text) (maxL := 1) (ret := (some .int)) (lv := [(0, .ref (h 0))]) (by decide) rfl (Nat.le_of_ble_eq_true rfl) rfl ?_
  intro p e s m below meth c ls hZ9 hE hr hlocks hin hml hsz hP hS hl
  subst hsz
  have hx := hE.1
  have hb := hE.2.1
  have hA : ∀ q, s.heap.size ≤ q → mw_A M s.heap.size q := fun q h => Or.inr h
  obtain ⟨hb0, hb1, hb2, hb3⟩ := id hn9
  obtain ⟨⟨f0, f1, f2, f3, f4⟩, fP, fO, fX⟩ := id hR
  obtain ⟨sP, sO, sX, sG, sL⟩ := id hs
  refine lv_aload_n hx hb dX3_text_0 rfl (lv_at hl 0 rfl) ?_
  refine mw_get (v := .int (nI (n 2))) (ci := 4) (T := TX3) (N := 8) (C := RX3) hE iX3_text_X3 hP f0 rfl 6 (by decide) (hE.2.2.1 _ mX3_text_f38) rfl rfl dX3_text_1 ?_
  refine lv_bipush (v := nI 40) hx hb dX3_text_4 (by decide) ?_
  refine lv_icmp_lt (tgt := 11) hx hb dX3_text_6 (by decide) (fun c_6 => ?_) (fun c_6 => ?_)
  · have k_6 : (n 2) < 40 := nn_lt (a := (n 2)) (b := 40) c_6 (by omega) (by omega)
    refine lv_aload_n hx hb dX3_text_11 rfl (lv_at hl 0 rfl) ?_
    refine mw_get (v := .ref (h 3)) (ci := 4) (T := TX3) (N := 8) (C := RX3) hE iX3_text_X3 hP f0 rfl 2 (by decide) (hE.2.2.1 _ mX3_text_f23) rfl rfl dX3_text_12 ?_
    refine lv_aload_n hx hb dX3_text_15 rfl (lv_at hl 0 rfl) ?_
    refine mw_get (v := .int (nI (n 2))) (ci := 4) (T := TX3) (N := 8) (C := RX3) hE iX3_text_X3 hP f0 rfl 6 (by decide) (hE.2.2.1 _ mX3_text_f38) rfl rfl dX3_text_16 ?_
    refine mw_new (ci := 3) (fs := [.null, .int 0]) (C := RX2) (T := TX2) (N := 2) hE iX3_text_X2 tyX2 tyX2_ok (hE.2.2.1 _ mX3_text_c21) (hE.2.2.1 _ mX3_text_instRX2) (hE.2.2.1 _ mX3_text_iniRX2) hP hS hA rfl (by decide +kernel) (by decide) (by decide) dX3_text_19 (fun a9 H hMa9 hP hS => ?_)
    refine rw_cs (k := 1) (n := 2) (by decide) (by decide) ?_
    obtain ⟨M_2, eM_2⟩ : ∃ Z, Z = mw_up M a9 (.inr (3, [.null, .int 0])) := ⟨_, rfl⟩
    have hP : mw_Q (mw_A M s.heap.size) D vwCl M_2 H := by rw [eM_2]; exact hP
    have nf_3_a9 : (h 0) ≠ a9 := mw_ne hMa9 f0
    have f_3 : M_2 (h 0) = some (.inr (4, [.ref (h 1), .ref (h 2), .ref (h 3), .ref (h 4), .int (nI (n 0)), .int (nI (n 1)), .int (nI (n 2)), .int (nI (n 3))])) := by rw [eM_2, mw_up_n nf_3_a9]; exact f0
    have nf_4_a9 : (h 3) ≠ a9 := mw_ne hMa9 f3
    have f_4 : M_2 (h 3) = some (.inl ((k 4), 40, .inr (.inr (.inr (.inr (fun p => if p < n 2 then some (b 6 p) else none)))))) := by rw [eM_2, mw_up_n nf_4_a9]; exact f3
    have f_5 : M_2 a9 = some (.inr (3, [.null, .int 0])) := by rw [eM_2]; exact mw_up_s
    refine lv_dup hx hb dX3_text_22 rfl ?_
    refine mw_callv hP hS hA (va_runIN (As := []) (rest := [.ref a9, .int (nI (n 2)), .ref (h 3)]) ⟨hx, hb, hml, hE.2.2.2.1, hE.2.2.1⟩ (tX2_init l D k _ _ a9 f_5) ⟨va_cnB 0 hE.2.2.1 gX3_text_X2_init_n113 rfl rfl rfl hZ9 (hE.2.2.1 _ mX3_text_iniRX2) (by decide +kernel) ⟨(Nat.le_of_ble_eq_true rfl), (Nat.le_of_ble_eq_true rfl)⟩, rfl, hE.2.2.1 _ mX3_text_imyX2_init⟩ (mw_preS hE hP [.ref a9]) rfl rfl hl.1 rfl (lv_room (Nat.le_of_ble_eq_true rfl)) dX3_text_23 ⟨(Nat.le_of_ble_eq_true rfl), (Nat.le_of_ble_eq_true rfl)⟩) (fun M2 H locs hw hP hS => ?_)
    refine rw_cs (k := 2) (n := 42) (by decide) (by decide) ?_
    obtain ⟨q9, v_q9, w1, w2, w3⟩ := hw
    have n_a9_q9 : a9 ≠ q9 := mw_ne v_q9 f_5
    have n_h0_q9 := mw_ne v_q9 f_3
    have k_h0 := (w3 (h 0) nf_3_a9 n_h0_q9).trans f_3
    have n_h3_q9 := mw_ne v_q9 f_4
    have k_h3 := (w3 (h 3) nf_4_a9 n_h3_q9).trans f_4
    refine rw_aast hE hP hS 4 3 k_h3 rfl w1 rfl (by decide) dX3_text_26 (by omega) (fun H locs hP hS => ?_)
    obtain ⟨M_6, eM_6⟩ : ∃ Z, Z = mw_up M2 (h 3) (.inl ((k 4), 40, .inr (.inr (.inr (.inr (va_up (fun p => if p < n 2 then some (b 6 p) else none) (n 2) (some a9))))))) := ⟨_, rfl⟩
    have hP : mw_Q (mw_A M s.heap.size) D vwCl M_6 H := by rw [eM_6]; exact hP
    have f_7 : M_6 (h 0) = some (.inr (4, [.ref (h 1), .ref (h 2), .ref (h 3), .ref (h 4), .int (nI (n 0)), .int (nI (n 1)), .int (nI (n 2)), .int (nI (n 3))])) := by rw [eM_6, mw_up_n (fun h => by have h1 := k_h0; rw [h, k_h3] at h1; cases h1)]; exact k_h0
    have f_8 : M_6 (h 3) = some (.inl ((k 4), 40, .inr (.inr (.inr (.inr (va_up (fun p => if p < n 2 then some (b 6 p) else none) (n 2) (some a9))))))) := by rw [eM_6]; exact mw_up_s
    have f_9 : M_6 a9 = some (.inr (3, [.ref q9, .int 0])) := by rw [eM_6, mw_up_n (Ne.symm nf_4_a9)]; exact w1
    refine lv_aload_n hx hb dX3_text_27 rfl (lv_at hl 0 rfl) ?_
    refine lv_dup hx hb dX3_text_28 rfl ?_
    refine mw_get (v := .int (nI (n 2))) (ci := 4) (T := TX3) (N := 8) (C := RX3) hE iX3_text_X3 hP f_7 rfl 6 (by decide) (hE.2.2.1 _ mX3_text_f38) rfl rfl dX3_text_29 ?_
    refine lv_dup_x1 hx hb dX3_text_32 rfl rfl ?_
    refine lv_iconst (v := 1) hx hb dX3_text_33 (by decide) ?_
    refine lv_iadd hx hb dX3_text_34 ?_
    refine rw_i (v := nI ((n 2) + 1)) (nI_1 _) ?_
    refine mw_put (ty := .int) (v := .int (nI ((n 2) + 1))) (ci := 4) (T := TX3) (N := 8) (C := RX3) hE iX3_text_X3 tyX3 tyX3_ok nmX3 hP hS f_7 rfl 6 (by decide) (hE.2.2.1 _ mX3_text_f38) rfl rfl (by decide +kernel) rfl rfl (Nat.le_of_ble_eq_true rfl) dX3_text_35 (fun H locs hP hS => ?_)
    obtain ⟨M_10, eM_10⟩ : ∃ Z, Z = mw_up M_6 (h 0) (.inr (4, [.ref (h 1), .ref (h 2), .ref (h 3), .ref (h 4), .int (nI (n 0)), .int (nI (n 1)), .int (nI ((n 2) + 1)), .int (nI (n 3))])) := ⟨_, rfl⟩
    have hP : mw_Q (mw_A M s.heap.size) D vwCl M_10 H := by rw [eM_10]; exact hP
    have f_11 : M_10 (h 0) = some (.inr (4, [.ref (h 1), .ref (h 2), .ref (h 3), .ref (h 4), .int (nI (n 0)), .int (nI (n 1)), .int (nI ((n 2) + 1)), .int (nI (n 3))])) := by rw [eM_10]; exact mw_up_s
    have f_12 : M_10 (h 3) = some (.inl ((k 4), 40, .inr (.inr (.inr (.inr (va_up (fun p => if p < n 2 then some (b 6 p) else none) (n 2) (some a9))))))) := by rw [eM_10, mw_up_n (fun h => by have h1 := f_8; rw [h, f_7] at h1; cases h1)]; exact f_8
    have f_13 : M_10 a9 = some (.inr (3, [.ref q9, .int 0])) := by rw [eM_10, mw_up_n (Ne.symm nf_3_a9)]; exact f_9
    have hfin : ∀ y, y ≠ h 0 → y ≠ h 3 → y ≠ a9 → y ≠ q9 → M_10 y = M y := fun y h1 h2 h3 h4 => by rw [eM_10, mw_up_n h1, eM_6, mw_up_n h2, w3 y h3 h4, eM_2, mw_up_n h3]
    have z_q9 : M q9 = none := by have hh := v_q9; rw [eM_2, mw_up_n (Ne.symm n_a9_q9)] at hh; exact hh
    have y_q9 := (show M_10 q9 = M2 q9 by rw [eM_10, mw_up_n (Ne.symm n_h0_q9), eM_6, mw_up_n (Ne.symm n_h3_q9)]).trans w2
    obtain ⟨hRn, hTn⟩ := cp_addX hR hT hMa9 z_q9 n_a9_q9 f_11 f_12 f_13 y_q9 hfin
    exact mw_iret (v := nI (n 2)) hE hr hlocks hP hS dX3_text_38 (⟨_, _, _, _, _, hRn, hTn, sm_text hs hg9, Or.inr ⟨by omega, rfl, rfl⟩⟩)
  · have k_6 : 40 ≤ (n 2) := nn_nlt (a := (n 2)) (b := 40) c_6 (by omega) (by omega)
    refine lv_iconst (v := (-1)) hx hb dX3_text_9 (by decide) ?_
    refine rw_cs (k := 2) (n := 42) (by decide) (by decide) ?_
    exact mw_iret (v := (-1)) hE hr hlocks hP hS dX3_text_10 (⟨b, T, n, c9, L, hR, hT, hs, Or.inl ⟨by omega, rfl, rfl⟩⟩)

set_option maxRecDepth 20000 in
theorem mX3_order_c15 : Cond.classLink RX3 15 RX0 ∈ wsX3_order := by decide +kernel
set_option maxRecDepth 20000 in
theorem mX3_order_f17 : Cond.fieldLink RX3 17 "CodePages" "orders" "[LCodePages$Order;" ∈ wsX3_order := by decide +kernel
set_option maxRecDepth 20000 in
theorem mX3_order_f35 : Cond.fieldLink RX3 35 "CodePages" "orderCount" "I" ∈ wsX3_order := by decide +kernel
set_option maxRecDepth 20000 in
theorem mX3_order_f65 : Cond.fieldLink RX3 65 "CodePages$Page" "meanings" "[I" ∈ wsX3_order := by decide +kernel
set_option maxRecDepth 20000 in
theorem iX3_order_X0 : ∀ w ∈ u_ws RX0 TX0 4, w ∈ wsX3_order := by decide +kernel
set_option maxRecDepth 20000 in
theorem iX3_order_X1 : ∀ w ∈ u_ws RX1 TX1 2, w ∈ wsX3_order := by decide +kernel
set_option maxRecDepth 20000 in
theorem iX3_order_X3 : ∀ w ∈ u_ws RX3 TX3 8, w ∈ wsX3_order := by decide +kernel
set_option maxRecDepth 20000 in
theorem mX3_order_imyX0_init : Cond.instanceMethod yX0_init ∈ wsX3_order := by decide +kernel
set_option maxRecDepth 20000 in
theorem mX3_order_iniRX0 : Cond.initialized RX0 ∈ wsX3_order := by decide +kernel
set_option maxRecDepth 20000 in
theorem mX3_order_instRX0 : Cond.instantiable RX0 4 ∈ wsX3_order := by decide +kernel
set_option maxRecDepth 20000 in
theorem mX3_order_ml82 : Cond.methodLink RX3 82 yX0_init ∈ wsX3_order := by decide +kernel
set_option maxHeartbeats 4000000 in
set_option maxRecDepth 100000 in
theorem tX3_order (l : Launch) (D : va_G) (k : Nat → ClassId) (M : mw) (sz : Nat) (h : Nat → Nat) (b : Nat → Nat → Nat) (T : Nat → Nat × Nat) (n : Nat → Nat) (c9 : Nat → Nat → Nat → Int32) (g : Nat → Nat → Int32) (L : Nat → Nat) (X : Nat → Nat → Nat) (x : Int32) (hR : cp_R k h b n c9 M) (hT : cp_T h b T n) (hn9 : mo_B n) (hs : sm n c9 g L X) : Met l yX3_order wsX3_order ({ frames := 2, cells := 4, slots := 772, locals := 45 }) (va_Pc [.ref (h 0), .int x] (mw_U D vwCl (TY k) M sz)) (va_Qi (fun r M1 => ∃ b1 T1 n1 c1 g1, cp_R k h b1 n1 c1 M1 ∧ cp_T h b1 T1 n1 ∧ sm n1 c1 g1 L X ∧ R_order n g x r n1 g1) (mw_B D vwCl M sz) (mw_A M sz)) 4 772 (mw_A M sz) := by
  refine mw_met (cc := cX3_order) (maxL := 4) (ret := (some .int)) (lv := [(0, .ref (h 0)), (1, .int x)]) (by decide) rfl (Nat.le_of_ble_eq_true rfl) rfl ?_
  intro p e s m below meth c ls hE hr hlocks hin hml hsz hP hS hl
  subst hsz
  have hx := hE.1
  have hb := hE.2.1
  have hA : ∀ q, s.heap.size ≤ q → mw_A M s.heap.size q := fun q h => Or.inr h
  obtain ⟨hb0, hb1, hb2, hb3⟩ := id hn9
  obtain ⟨⟨f0, f1, f2, f3, f4⟩, fP, fO, fX⟩ := id hR
  obtain ⟨sP, sO, sX, sG, sL⟩ := id hs
  refine lv_iload_n hx hb dX3_order_0 rfl (lv_at hl 1 rfl) ?_
  refine mw_calli hP hS hA (va_runS (As := [.int x]) (rest := []) ⟨hx, hb, hml, hE.2.2.2.1, hE.2.2.1⟩ (tX3_isKind l D k _ _ x) (va_cwS 1 hE.2.2.1 gX3_order_X3_isKind rfl rfl rfl (by decide +kernel) ⟨(Nat.le_of_ble_eq_true rfl), (Nat.le_of_ble_eq_true rfl)⟩) (mw_preS hE hP [.int x]) rfl rfl hl.1 rfl (lv_room (Nat.le_of_ble_eq_true rfl)) dX3_order_1 ⟨(Nat.le_of_ble_eq_true rfl), (Nat.le_of_ble_eq_true rfl)⟩) (fun r_1 M1 H locs hw hP hS => ?_)
  obtain ⟨hM1, hw⟩ := hw
  rw [hM1] at hP
  rcases hw with ⟨hq_2, rfl⟩ | ⟨hq_2, rfl⟩
  · obtain ⟨z, hz, rfl⟩ := vp_in_of hq_2 (by omega)
    skip
    refine lv_if_ne (tgt := 10) hx hb dX3_order_4 (by decide) (fun _ => ?_) (fun c9 => absurd c9 (by decide))
    refine lv_aload_n hx hb dX3_order_10 rfl (lv_at hl 0 rfl) ?_
    refine mw_get (v := .int (nI (n 1))) (ci := 4) (T := TX3) (N := 8) (C := RX3) hE iX3_order_X3 hP f0 rfl 5 (by decide) (hE.2.2.1 _ mX3_order_f35) rfl rfl dX3_order_11 ?_
    refine lv_bipush (v := nI 12) hx hb dX3_order_14 (by decide) ?_
    refine lv_icmp_lt (tgt := 21) hx hb dX3_order_16 (by decide) (fun c_16 => ?_) (fun c_16 => ?_)
    · have k_16 : (n 1) < 12 := nn_lt (a := (n 1)) (b := 12) c_16 (by omega) (by omega)
      refine mw_new (ci := 1) (fs := [.int 0, .null, .null, .int 0]) (C := RX0) (T := TX0) (N := 4) hE iX3_order_X0 tyX0 tyX0_ok (hE.2.2.1 _ mX3_order_c15) (hE.2.2.1 _ mX3_order_instRX0) (hE.2.2.1 _ mX3_order_iniRX0) hP hS hA rfl (by decide +kernel) (by decide) (by decide) dX3_order_21 (fun a9 H hMa9 hP hS => ?_)
      refine rw_cs (k := 1) (n := 4) (by decide) (by decide) ?_
      obtain ⟨M_5, eM_5⟩ : ∃ Z, Z = mw_up M a9 (.inr (1, [.int 0, .null, .null, .int 0])) := ⟨_, rfl⟩
      have hP : mw_Q (mw_A M s.heap.size) D vwCl M_5 H := by rw [eM_5]; exact hP
      have nf_6_a9 : (h 0) ≠ a9 := mw_ne hMa9 f0
      have f_6 : M_5 (h 0) = some (.inr (4, [.ref (h 1), .ref (h 2), .ref (h 3), .ref (h 4), .int (nI (n 0)), .int (nI (n 1)), .int (nI (n 2)), .int (nI (n 3))])) := by rw [eM_5, mw_up_n nf_6_a9]; exact f0
      have nf_7_a9 : (h 1) ≠ a9 := mw_ne hMa9 f1
      have f_7 : M_5 (h 1) = some (.inl ((k 2), 12, .inr (.inr (.inr (.inr (fun p => if p < n 0 then some (b 1 p) else none)))))) := by rw [eM_5, mw_up_n nf_7_a9]; exact f1
      have nf_8_a9 : (h 2) ≠ a9 := mw_ne hMa9 f2
      have f_8 : M_5 (h 2) = some (.inl ((k 3), 12, .inr (.inr (.inr (.inr (fun p => if p < n 1 then some (b 3 p) else none)))))) := by rw [eM_5, mw_up_n nf_8_a9]; exact f2
      have f_9 : M_5 a9 = some (.inr (1, [.int 0, .null, .null, .int 0])) := by rw [eM_5]; exact mw_up_s
      refine lv_dup hx hb dX3_order_24 rfl ?_
      refine lv_iload_n hx hb dX3_order_25 rfl (lv_at hl 1 rfl) ?_
      refine lv_iconst (v := nI 2) hx hb dX3_order_26 (by decide) ?_
      refine lv_icmp_ne (tgt := 34) hx hb dX3_order_27 (by decide) (fun c_27 => ?_) (fun c_27 => ?_)
      · have k_27 : z ≠ 2 := nn_neq (a := z) (b := 2) c_27 (by omega) (by omega)
        refine lv_iconst (v := 0) hx hb dX3_order_34 (by decide) ?_
        refine mw_callv hP hS hA (va_runI (As := [.int 0]) (rest := [.ref a9]) ⟨hx, hb, hml, hE.2.2.2.1, hE.2.2.1⟩ (tX0_init l D k _ _ a9 0 (Or.inl rfl) f_9) (cwI 1 hE.2.2.1 gX3_order_X0_init rfl rfl rfl (hE.2.2.1 _ mX3_order_iniRX0) (hE.2.2.1 _ mX3_order_ml82) (hE.2.2.1 _ mX3_order_imyX0_init) rfl (by decide +kernel) ⟨(Nat.le_of_ble_eq_true rfl), (Nat.le_of_ble_eq_true rfl)⟩) (mw_preS hE hP [.ref a9, .int 0]) rfl rfl hl.1 rfl (lv_room (Nat.le_of_ble_eq_true rfl)) dX3_order_35 ⟨(Nat.le_of_ble_eq_true rfl), (Nat.le_of_ble_eq_true rfl)⟩) (fun M2 H locs hw hP hS => ?_)
        refine rw_cs (k := 3) (n := 516) (by decide) (by decide) ?_
        obtain ⟨q1, q2, v_q1, v_q2, n_q1_q2, w1, w2, w22, w3⟩ := hw
        have n_a9_q1 : a9 ≠ q1 := mw_ne v_q1 f_9
        have n_a9_q2 : a9 ≠ q2 := mw_ne v_q2 f_9
        have n_h0_q1 := mw_ne v_q1 f_6
        have n_h0_q2 := mw_ne v_q2 f_6
        have k_h0 := (w3 (h 0) nf_6_a9 n_h0_q1 n_h0_q2).trans f_6
        have n_h1_q1 := mw_ne v_q1 f_7
        have n_h1_q2 := mw_ne v_q2 f_7
        have k_h1 := (w3 (h 1) nf_7_a9 n_h1_q1 n_h1_q2).trans f_7
        have n_h2_q1 := mw_ne v_q1 f_8
        have n_h2_q2 := mw_ne v_q2 f_8
        have k_h2 := (w3 (h 2) nf_8_a9 n_h2_q1 n_h2_q2).trans f_8
        refine lv_astore_n (lv' := [(2, .ref a9), (0, .ref (h 0)), (1, .int (nI z))]) hx hb dX3_order_38 rfl hl (by decide) rfl (fun ls hl => ?_)
        refine lv_aload_n hx hb dX3_order_39 rfl (lv_at hl 1 rfl) ?_
        refine lv_iconst (v := 0) hx hb dX3_order_40 (by decide) ?_
        refine mw_callq hP hS hA (va_runV (As := [.int 0]) (rest := []) ⟨hx, hb, hml, hE.2.2.2.1, hE.2.2.1⟩ (tX3_pageAt l D k _ _ h (fun j => nI (n (j - 4))) (n 0) (b 1) 0 hb0 k_h0 k_h1) (cwV 1 hE.2.2.1 gX3_order_X3_pageAt rfl rfl rfl (by decide +kernel) ⟨(Nat.le_of_ble_eq_true rfl), (Nat.le_of_ble_eq_true rfl)⟩) (mw_preV hE hP (ci := 4) rfl rfl k_h0 [.int 0]) rfl rfl hl.1 rfl (lv_room (Nat.le_of_ble_eq_true rfl)) dX3_order_41 ⟨(Nat.le_of_ble_eq_true rfl), (Nat.le_of_ble_eq_true rfl)⟩) (fun r0 M3 H locs hw hP hS => ?_)
        obtain ⟨hM3, hw⟩ := hw
        rw [hM3] at hP
        rcases hw with ⟨pp, hpp, epp, rfl⟩ | ⟨hq0, rfl⟩
        · obtain rfl : pp = 0 := by have := nn_eq (a := 0) (b := pp) epp (by omega) (by omega); omega
          have na_b10 : b 1 0 ≠ a9 := mw_ne hMa9 (fP 0 hpp).1
          have f1_b10 : M_5 (b 1 0) = M (b 1 0) := by rw [eM_5, mw_up_n na_b10]
          have na_b10_q1 : b 1 0 ≠ q1 := mw_ne v_q1 (f1_b10.trans (fP 0 hpp).1)
          have na_b10_q2 : b 1 0 ≠ q2 := mw_ne v_q2 (f1_b10.trans (fP 0 hpp).1)
          have kk_b10 := (w3 (b 1 0) na_b10 na_b10_q1 na_b10_q2).trans (f1_b10.trans (fP 0 hpp).1)
          have na_b20 : b 2 0 ≠ a9 := mw_ne hMa9 (fP 0 hpp).2
          have f1_b20 : M_5 (b 2 0) = M (b 2 0) := by rw [eM_5, mw_up_n na_b20]
          have na_b20_q1 : b 2 0 ≠ q1 := mw_ne v_q1 (f1_b20.trans (fP 0 hpp).2)
          have na_b20_q2 : b 2 0 ≠ q2 := mw_ne v_q2 (f1_b20.trans (fP 0 hpp).2)
          have kk_b20 := (w3 (b 2 0) na_b20 na_b20_q1 na_b20_q2).trans (f1_b20.trans (fP 0 hpp).2)
          refine lv_astore_n (lv' := [(3, .ref (b 1 0)), (2, .ref a9), (0, .ref (h 0)), (1, .int (nI z))]) hx hb dX3_order_44 rfl hl (by decide) rfl (fun ls hl => ?_)
          refine lv_iload_n hx hb dX3_order_45 rfl (lv_at hl 3 rfl) ?_
          refine lv_iconst (v := 1) hx hb dX3_order_46 (by decide) ?_
          refine lv_icmp_ne (tgt := 62) hx hb dX3_order_47 (by decide) (fun c_47 => ?_) (fun c_47 => ?_)
          · have k_47 : z ≠ 1 := nn_neq (a := z) (b := 1) c_47 (by omega) (by omega)
            refine lv_aload_n hx hb dX3_order_62 rfl (lv_at hl 2 rfl) ?_
            refine mw_get (v := .ref (h 2)) (ci := 4) (T := TX3) (N := 8) (C := RX3) hE iX3_order_X3 hP k_h0 rfl 1 (by decide) (hE.2.2.1 _ mX3_order_f17) rfl rfl dX3_order_63 ?_
            refine lv_aload_n hx hb dX3_order_66 rfl (lv_at hl 2 rfl) ?_
            refine mw_get (v := .int (nI (n 1))) (ci := 4) (T := TX3) (N := 8) (C := RX3) hE iX3_order_X3 hP k_h0 rfl 5 (by decide) (hE.2.2.1 _ mX3_order_f35) rfl rfl dX3_order_67 ?_
            refine lv_aload_n hx hb dX3_order_70 rfl (lv_at hl 1 rfl) ?_
            refine rw_aast hE hP hS 3 1 k_h2 rfl w1 rfl (by decide) dX3_order_71 (by omega) (fun H locs hP hS => ?_)
            obtain ⟨M_12, eM_12⟩ : ∃ Z, Z = mw_up M2 (h 2) (.inl ((k 3), 12, .inr (.inr (.inr (.inr (va_up (fun p => if p < n 1 then some (b 3 p) else none) (n 1) (some a9))))))) := ⟨_, rfl⟩
            have hP : mw_Q (mw_A M s.heap.size) D vwCl M_12 H := by rw [eM_12]; exact hP
            have f_13 : M_12 (h 0) = some (.inr (4, [.ref (h 1), .ref (h 2), .ref (h 3), .ref (h 4), .int (nI (n 0)), .int (nI (n 1)), .int (nI (n 2)), .int (nI (n 3))])) := by rw [eM_12, mw_up_n (fun h => by have h1 := k_h0; rw [h, k_h2] at h1; cases h1)]; exact k_h0
            have f_14 : M_12 (h 2) = some (.inl ((k 3), 12, .inr (.inr (.inr (.inr (va_up (fun p => if p < n 1 then some (b 3 p) else none) (n 1) (some a9))))))) := by rw [eM_12]; exact mw_up_s
            have f_15 : M_12 a9 = some (.inr (1, [.int 0, .ref q1, .ref q2, .int 0])) := by rw [eM_12, mw_up_n (Ne.symm nf_8_a9)]; exact w1
            refine lv_aload_n hx hb dX3_order_72 rfl (lv_at hl 2 rfl) ?_
            refine lv_dup hx hb dX3_order_73 rfl ?_
            refine mw_get (v := .int (nI (n 1))) (ci := 4) (T := TX3) (N := 8) (C := RX3) hE iX3_order_X3 hP f_13 rfl 5 (by decide) (hE.2.2.1 _ mX3_order_f35) rfl rfl dX3_order_74 ?_
            refine lv_dup_x1 hx hb dX3_order_77 rfl rfl ?_
            refine lv_iconst (v := 1) hx hb dX3_order_78 (by decide) ?_
            refine lv_iadd hx hb dX3_order_79 ?_
            refine rw_i (v := nI ((n 1) + 1)) (nI_1 _) ?_
            refine mw_put (ty := .int) (v := .int (nI ((n 1) + 1))) (ci := 4) (T := TX3) (N := 8) (C := RX3) hE iX3_order_X3 tyX3 tyX3_ok nmX3 hP hS f_13 rfl 5 (by decide) (hE.2.2.1 _ mX3_order_f35) rfl rfl (by decide +kernel) rfl rfl (Nat.le_of_ble_eq_true rfl) dX3_order_80 (fun H locs hP hS => ?_)
            obtain ⟨M_16, eM_16⟩ : ∃ Z, Z = mw_up M_12 (h 0) (.inr (4, [.ref (h 1), .ref (h 2), .ref (h 3), .ref (h 4), .int (nI (n 0)), .int (nI ((n 1) + 1)), .int (nI (n 2)), .int (nI (n 3))])) := ⟨_, rfl⟩
            have hP : mw_Q (mw_A M s.heap.size) D vwCl M_16 H := by rw [eM_16]; exact hP
            have f_17 : M_16 (h 0) = some (.inr (4, [.ref (h 1), .ref (h 2), .ref (h 3), .ref (h 4), .int (nI (n 0)), .int (nI ((n 1) + 1)), .int (nI (n 2)), .int (nI (n 3))])) := by rw [eM_16]; exact mw_up_s
            have f_18 : M_16 (h 2) = some (.inl ((k 3), 12, .inr (.inr (.inr (.inr (va_up (fun p => if p < n 1 then some (b 3 p) else none) (n 1) (some a9))))))) := by rw [eM_16, mw_up_n (fun h => by have h1 := f_14; rw [h, f_13] at h1; cases h1)]; exact f_14
            have f_19 : M_16 a9 = some (.inr (1, [.int 0, .ref q1, .ref q2, .int 0])) := by rw [eM_16, mw_up_n (Ne.symm nf_6_a9)]; exact f_15
            refine rw_cs (k := 4) (n := 772) (by decide) (by decide) ?_
            have hfin : ∀ y, y ≠ h 0 → y ≠ h 2 → y ≠ a9 → y ≠ q1 → y ≠ q2 → M_16 y = M y := fun y h1 h2 h3 h4 h5 => by rw [eM_16, mw_up_n h1, eM_12, mw_up_n h2, w3 y h3 h4 h5, eM_5, mw_up_n h3]
            have z_q1 : M q1 = none := by have hh := v_q1; rw [eM_5, mw_up_n (Ne.symm n_a9_q1)] at hh; exact hh
            have y_q1 := (show M_16 q1 = M2 q1 by rw [eM_16, mw_up_n (Ne.symm n_h0_q1), eM_12, mw_up_n (Ne.symm n_h2_q1)]).trans w2
            have z_q2 : M q2 = none := by have hh := v_q2; rw [eM_5, mw_up_n (Ne.symm n_a9_q2)] at hh; exact hh
            have y_q2 := (show M_16 q2 = M2 q2 by rw [eM_16, mw_up_n (Ne.symm n_h0_q2), eM_12, mw_up_n (Ne.symm n_h2_q2)]).trans w22
            obtain ⟨hRn, hTn⟩ := cp_addO hR hT hMa9 z_q1 z_q2 n_a9_q1 n_a9_q2 n_q1_q2 f_17 f_18 f_19 y_q1 y_q2 hfin
            exact mw_iret (v := nI (n 1)) hE hr hlocks hP hS dX3_order_83 (⟨_, _, _, _, _, hRn, hTn, sm_order hs hz (fun i hi => by rw [if_neg k_27, blk0 hi]; unfold fo; rw [if_neg k_27, if_pos (by omega)]) ((bz_f k_27).symm), Or.inr (Or.inr ⟨z, hz, rfl, by omega, rfl, rfl, rfl⟩)⟩)
          · have k_47 : z = 1 := nn_eq (a := z) (b := 1) c_47 (by omega) (by omega)
            refine lv_aload_n hx hb dX3_order_50 rfl (lv_at hl 0 rfl) ?_
            refine lv_ifnull hx hb dX3_order_51 ?_
            refine lv_aload_n hx hb dX3_order_54 rfl (lv_at hl 1 rfl) ?_
            refine lv_aload_n hx hb dX3_order_55 rfl (lv_at hl 0 rfl) ?_
            refine mw_get (v := .ref (b 2 0)) (ci := 2) (T := TX1) (N := 2) (C := RX1) hE iX3_order_X1 hP kk_b10 rfl 0 (by decide) (hE.2.2.1 _ mX3_order_f65) rfl rfl dX3_order_56 ?_
            refine mw_callv hP hS hA (va_runV (As := [.ref (b 2 0)]) (rest := []) ⟨hx, hb, hml, hE.2.2.2.1, hE.2.2.1⟩ (tX0_rankBy l D k _ _ a9 q1 q2 0 0 (blk (fun _ => 0) 0 256 nI) (fun _ => 0) w1 w2 w22 (b 2 0) (c9 1 0) kk_b20 (kx_inj sP hpp)) (cwV 1 hE.2.2.1 gX3_order_X0_rankBy rfl rfl rfl (by decide +kernel) ⟨(Nat.le_of_ble_eq_true rfl), (Nat.le_of_ble_eq_true rfl)⟩) (mw_preV hE hP (ci := 1) rfl rfl w1 [.ref (b 2 0)]) rfl rfl hl.1 rfl (lv_room (Nat.le_of_ble_eq_true rfl)) dX3_order_59 ⟨(Nat.le_of_ble_eq_true rfl), (Nat.le_of_ble_eq_true rfl)⟩) (fun M4 H locs hw hP hS => ?_)
            refine rw_cs (k := 4) (n := 772) (by decide) (by decide) ?_
            obtain ⟨R3, qt, v_qt, y1, y2, y3⟩ := hw
            have j_h0 := (y3 (h 0) (mw_ne v_qt k_h0) n_h0_q1).trans k_h0
            have j_h2 := (y3 (h 2) (mw_ne v_qt k_h2) n_h2_q1).trans k_h2
            have j_a9 := (y3 (a9) (mw_ne v_qt w1) n_a9_q1).trans w1
            have j_q2 := (y3 q2 (mw_ne v_qt w22) (Ne.symm n_q1_q2)).trans w22
            refine lv_aload_n hx hb dX3_order_62 rfl (lv_at hl 2 rfl) ?_
            refine mw_get (v := .ref (h 2)) (ci := 4) (T := TX3) (N := 8) (C := RX3) hE iX3_order_X3 hP j_h0 rfl 1 (by decide) (hE.2.2.1 _ mX3_order_f17) rfl rfl dX3_order_63 ?_
            refine lv_aload_n hx hb dX3_order_66 rfl (lv_at hl 2 rfl) ?_
            refine mw_get (v := .int (nI (n 1))) (ci := 4) (T := TX3) (N := 8) (C := RX3) hE iX3_order_X3 hP j_h0 rfl 5 (by decide) (hE.2.2.1 _ mX3_order_f35) rfl rfl dX3_order_67 ?_
            refine lv_aload_n hx hb dX3_order_70 rfl (lv_at hl 1 rfl) ?_
            refine rw_aast hE hP hS 3 1 j_h2 rfl j_a9 rfl (by decide) dX3_order_71 (by omega) (fun H locs hP hS => ?_)
            obtain ⟨M_20, eM_20⟩ : ∃ Z, Z = mw_up M4 (h 2) (.inl ((k 3), 12, .inr (.inr (.inr (.inr (va_up (fun p => if p < n 1 then some (b 3 p) else none) (n 1) (some a9))))))) := ⟨_, rfl⟩
            have hP : mw_Q (mw_A M s.heap.size) D vwCl M_20 H := by rw [eM_20]; exact hP
            have f_21 : M_20 (h 0) = some (.inr (4, [.ref (h 1), .ref (h 2), .ref (h 3), .ref (h 4), .int (nI (n 0)), .int (nI (n 1)), .int (nI (n 2)), .int (nI (n 3))])) := by rw [eM_20, mw_up_n (fun h => by have h1 := j_h0; rw [h, j_h2] at h1; cases h1)]; exact j_h0
            have f_22 : M_20 (h 2) = some (.inl ((k 3), 12, .inr (.inr (.inr (.inr (va_up (fun p => if p < n 1 then some (b 3 p) else none) (n 1) (some a9))))))) := by rw [eM_20]; exact mw_up_s
            have f_23 : M_20 a9 = some (.inr (1, [.int 0, .ref q1, .ref q2, .int 0])) := by rw [eM_20, mw_up_n (Ne.symm nf_8_a9)]; exact j_a9
            refine lv_aload_n hx hb dX3_order_72 rfl (lv_at hl 2 rfl) ?_
            refine lv_dup hx hb dX3_order_73 rfl ?_
            refine mw_get (v := .int (nI (n 1))) (ci := 4) (T := TX3) (N := 8) (C := RX3) hE iX3_order_X3 hP f_21 rfl 5 (by decide) (hE.2.2.1 _ mX3_order_f35) rfl rfl dX3_order_74 ?_
            refine lv_dup_x1 hx hb dX3_order_77 rfl rfl ?_
            refine lv_iconst (v := 1) hx hb dX3_order_78 (by decide) ?_
            refine lv_iadd hx hb dX3_order_79 ?_
            refine rw_i (v := nI ((n 1) + 1)) (nI_1 _) ?_
            refine mw_put (ty := .int) (v := .int (nI ((n 1) + 1))) (ci := 4) (T := TX3) (N := 8) (C := RX3) hE iX3_order_X3 tyX3 tyX3_ok nmX3 hP hS f_21 rfl 5 (by decide) (hE.2.2.1 _ mX3_order_f35) rfl rfl (by decide +kernel) rfl rfl (Nat.le_of_ble_eq_true rfl) dX3_order_80 (fun H locs hP hS => ?_)
            obtain ⟨M_24, eM_24⟩ : ∃ Z, Z = mw_up M_20 (h 0) (.inr (4, [.ref (h 1), .ref (h 2), .ref (h 3), .ref (h 4), .int (nI (n 0)), .int (nI ((n 1) + 1)), .int (nI (n 2)), .int (nI (n 3))])) := ⟨_, rfl⟩
            have hP : mw_Q (mw_A M s.heap.size) D vwCl M_24 H := by rw [eM_24]; exact hP
            have f_25 : M_24 (h 0) = some (.inr (4, [.ref (h 1), .ref (h 2), .ref (h 3), .ref (h 4), .int (nI (n 0)), .int (nI ((n 1) + 1)), .int (nI (n 2)), .int (nI (n 3))])) := by rw [eM_24]; exact mw_up_s
            have f_26 : M_24 (h 2) = some (.inl ((k 3), 12, .inr (.inr (.inr (.inr (va_up (fun p => if p < n 1 then some (b 3 p) else none) (n 1) (some a9))))))) := by rw [eM_24, mw_up_n (fun h => by have h1 := f_22; rw [h, f_21] at h1; cases h1)]; exact f_22
            have f_27 : M_24 a9 = some (.inr (1, [.int 0, .ref q1, .ref q2, .int 0])) := by rw [eM_24, mw_up_n (Ne.symm nf_6_a9)]; exact f_23
            have hqtM : ∀ y, y ≠ a9 → y ≠ q1 → y ≠ q2 → M y ≠ none → y ≠ qt := fun y h3 h4 h5 hm hh => by rw [hh] at h3 h4 h5 hm; have h9 := v_qt; rw [w3 qt h3 h4 h5, eM_5, mw_up_n h3] at h9; exact hm h9
            have hqt4 : ∀ y, y ≠ qt → y ≠ h 0 → y ≠ h 2 → y ≠ a9 → y ≠ q1 → y ≠ q2 → M_24 y = M y := fun y h0 h1 h2 h3 h4 h5 => by rw [eM_24, mw_up_n h1, eM_20, mw_up_n h2, y3 y h0 h4, w3 y h3 h4 h5, eM_5, mw_up_n h3]
            have z_q1 : M q1 = none := by have hh := v_q1; rw [eM_5, mw_up_n (Ne.symm n_a9_q1)] at hh; exact hh
            have y_q1 := (show M_24 q1 = M4 q1 by rw [eM_24, mw_up_n (Ne.symm n_h0_q1), eM_20, mw_up_n (Ne.symm n_h2_q1)]).trans y1
            have z_q2 : M q2 = none := by have hh := v_q2; rw [eM_5, mw_up_n (Ne.symm n_a9_q2)] at hh; exact hh
            have y_q2 := (show M_24 q2 = M4 q2 by rw [eM_24, mw_up_n (Ne.symm n_h0_q2), eM_20, mw_up_n (Ne.symm n_h2_q2)]).trans j_q2
            obtain ⟨hRn, hTn⟩ := cp_addOq hR hT hqtM hMa9 z_q1 z_q2 n_a9_q1 n_a9_q2 n_q1_q2 f_25 f_26 f_27 y_q1 y_q2 hqt4
            exact mw_iret (v := nI (n 1)) hE hr hlocks hP hS dX3_order_83 (⟨_, _, _, _, _, hRn, hTn, sm_order hs hz (fun i hi => by rw [if_neg (by omega), y2 i hi, mnt_rk sP hpp hi]; unfold fo; rw [if_neg (by omega), if_neg (by omega)]) ((bz_f k_27).symm), Or.inr (Or.inr ⟨z, hz, rfl, by omega, rfl, rfl, rfl⟩)⟩)
        · have hn0 : n 0 = 0 := by rcases Nat.eq_zero_or_pos (n 0) with hh | hh; exact hh; exact absurd (vp_in_nI (n := 0) hh (by omega)) hq0
          refine lv_astore_nN (lv' := [(3, .null), (2, .ref a9), (0, .ref (h 0)), (1, .int (nI z))]) hx hb dX3_order_44 rfl hl (by decide) rfl (fun ls hl => ?_)
          refine lv_iload_n hx hb dX3_order_45 rfl (lv_at hl 3 rfl) ?_
          refine lv_iconst (v := 1) hx hb dX3_order_46 (by decide) ?_
          refine lv_icmp_ne (tgt := 62) hx hb dX3_order_47 (by decide) (fun c_47 => ?_) (fun c_47 => ?_)
          · have k_47 : z ≠ 1 := nn_neq (a := z) (b := 1) c_47 (by omega) (by omega)
            refine lv_aload_n hx hb dX3_order_62 rfl (lv_at hl 2 rfl) ?_
            refine mw_get (v := .ref (h 2)) (ci := 4) (T := TX3) (N := 8) (C := RX3) hE iX3_order_X3 hP k_h0 rfl 1 (by decide) (hE.2.2.1 _ mX3_order_f17) rfl rfl dX3_order_63 ?_
            refine lv_aload_n hx hb dX3_order_66 rfl (lv_at hl 2 rfl) ?_
            refine mw_get (v := .int (nI (n 1))) (ci := 4) (T := TX3) (N := 8) (C := RX3) hE iX3_order_X3 hP k_h0 rfl 5 (by decide) (hE.2.2.1 _ mX3_order_f35) rfl rfl dX3_order_67 ?_
            refine lv_aload_n hx hb dX3_order_70 rfl (lv_at hl 1 rfl) ?_
            refine rw_aast hE hP hS 3 1 k_h2 rfl w1 rfl (by decide) dX3_order_71 (by omega) (fun H locs hP hS => ?_)
            obtain ⟨M_29, eM_29⟩ : ∃ Z, Z = mw_up M2 (h 2) (.inl ((k 3), 12, .inr (.inr (.inr (.inr (va_up (fun p => if p < n 1 then some (b 3 p) else none) (n 1) (some a9))))))) := ⟨_, rfl⟩
            have hP : mw_Q (mw_A M s.heap.size) D vwCl M_29 H := by rw [eM_29]; exact hP
            have f_30 : M_29 (h 0) = some (.inr (4, [.ref (h 1), .ref (h 2), .ref (h 3), .ref (h 4), .int (nI (n 0)), .int (nI (n 1)), .int (nI (n 2)), .int (nI (n 3))])) := by rw [eM_29, mw_up_n (fun h => by have h1 := k_h0; rw [h, k_h2] at h1; cases h1)]; exact k_h0
            have f_31 : M_29 (h 2) = some (.inl ((k 3), 12, .inr (.inr (.inr (.inr (va_up (fun p => if p < n 1 then some (b 3 p) else none) (n 1) (some a9))))))) := by rw [eM_29]; exact mw_up_s
            have f_32 : M_29 a9 = some (.inr (1, [.int 0, .ref q1, .ref q2, .int 0])) := by rw [eM_29, mw_up_n (Ne.symm nf_8_a9)]; exact w1
            refine lv_aload_n hx hb dX3_order_72 rfl (lv_at hl 2 rfl) ?_
            refine lv_dup hx hb dX3_order_73 rfl ?_
            refine mw_get (v := .int (nI (n 1))) (ci := 4) (T := TX3) (N := 8) (C := RX3) hE iX3_order_X3 hP f_30 rfl 5 (by decide) (hE.2.2.1 _ mX3_order_f35) rfl rfl dX3_order_74 ?_
            refine lv_dup_x1 hx hb dX3_order_77 rfl rfl ?_
            refine lv_iconst (v := 1) hx hb dX3_order_78 (by decide) ?_
            refine lv_iadd hx hb dX3_order_79 ?_
            refine rw_i (v := nI ((n 1) + 1)) (nI_1 _) ?_
            refine mw_put (ty := .int) (v := .int (nI ((n 1) + 1))) (ci := 4) (T := TX3) (N := 8) (C := RX3) hE iX3_order_X3 tyX3 tyX3_ok nmX3 hP hS f_30 rfl 5 (by decide) (hE.2.2.1 _ mX3_order_f35) rfl rfl (by decide +kernel) rfl rfl (Nat.le_of_ble_eq_true rfl) dX3_order_80 (fun H locs hP hS => ?_)
            obtain ⟨M_33, eM_33⟩ : ∃ Z, Z = mw_up M_29 (h 0) (.inr (4, [.ref (h 1), .ref (h 2), .ref (h 3), .ref (h 4), .int (nI (n 0)), .int (nI ((n 1) + 1)), .int (nI (n 2)), .int (nI (n 3))])) := ⟨_, rfl⟩
            have hP : mw_Q (mw_A M s.heap.size) D vwCl M_33 H := by rw [eM_33]; exact hP
            have f_34 : M_33 (h 0) = some (.inr (4, [.ref (h 1), .ref (h 2), .ref (h 3), .ref (h 4), .int (nI (n 0)), .int (nI ((n 1) + 1)), .int (nI (n 2)), .int (nI (n 3))])) := by rw [eM_33]; exact mw_up_s
            have f_35 : M_33 (h 2) = some (.inl ((k 3), 12, .inr (.inr (.inr (.inr (va_up (fun p => if p < n 1 then some (b 3 p) else none) (n 1) (some a9))))))) := by rw [eM_33, mw_up_n (fun h => by have h1 := f_31; rw [h, f_30] at h1; cases h1)]; exact f_31
            have f_36 : M_33 a9 = some (.inr (1, [.int 0, .ref q1, .ref q2, .int 0])) := by rw [eM_33, mw_up_n (Ne.symm nf_6_a9)]; exact f_32
            refine rw_cs (k := 4) (n := 772) (by decide) (by decide) ?_
            have hfin : ∀ y, y ≠ h 0 → y ≠ h 2 → y ≠ a9 → y ≠ q1 → y ≠ q2 → M_33 y = M y := fun y h1 h2 h3 h4 h5 => by rw [eM_33, mw_up_n h1, eM_29, mw_up_n h2, w3 y h3 h4 h5, eM_5, mw_up_n h3]
            have z_q1 : M q1 = none := by have hh := v_q1; rw [eM_5, mw_up_n (Ne.symm n_a9_q1)] at hh; exact hh
            have y_q1 := (show M_33 q1 = M2 q1 by rw [eM_33, mw_up_n (Ne.symm n_h0_q1), eM_29, mw_up_n (Ne.symm n_h2_q1)]).trans w2
            have z_q2 : M q2 = none := by have hh := v_q2; rw [eM_5, mw_up_n (Ne.symm n_a9_q2)] at hh; exact hh
            have y_q2 := (show M_33 q2 = M2 q2 by rw [eM_33, mw_up_n (Ne.symm n_h0_q2), eM_29, mw_up_n (Ne.symm n_h2_q2)]).trans w22
            obtain ⟨hRn, hTn⟩ := cp_addO hR hT hMa9 z_q1 z_q2 n_a9_q1 n_a9_q2 n_q1_q2 f_34 f_35 f_36 y_q1 y_q2 hfin
            exact mw_iret (v := nI (n 1)) hE hr hlocks hP hS dX3_order_83 (⟨_, _, _, _, _, hRn, hTn, sm_order hs hz (fun i hi => by rw [if_neg k_27, blk0 hi]; unfold fo; rw [if_neg k_27]; by_cases h00 : z = 0; (rw [if_pos h00]); (rw [if_neg h00]; unfold mnt; rw [if_pos hn0])) ((bz_f k_27).symm), Or.inr (Or.inr ⟨z, hz, rfl, by omega, rfl, rfl, rfl⟩)⟩)
          · have k_47 : z = 1 := nn_eq (a := z) (b := 1) c_47 (by omega) (by omega)
            refine lv_aload_nN hx hb dX3_order_50 rfl (lv_at hl 0 rfl) ?_
            refine lv_ifnullN (tgt := 62) hx hb dX3_order_51 (by decide) ?_
            refine lv_aload_n hx hb dX3_order_62 rfl (lv_at hl 2 rfl) ?_
            refine mw_get (v := .ref (h 2)) (ci := 4) (T := TX3) (N := 8) (C := RX3) hE iX3_order_X3 hP k_h0 rfl 1 (by decide) (hE.2.2.1 _ mX3_order_f17) rfl rfl dX3_order_63 ?_
            refine lv_aload_n hx hb dX3_order_66 rfl (lv_at hl 2 rfl) ?_
            refine mw_get (v := .int (nI (n 1))) (ci := 4) (T := TX3) (N := 8) (C := RX3) hE iX3_order_X3 hP k_h0 rfl 5 (by decide) (hE.2.2.1 _ mX3_order_f35) rfl rfl dX3_order_67 ?_
            refine lv_aload_n hx hb dX3_order_70 rfl (lv_at hl 1 rfl) ?_
            refine rw_aast hE hP hS 3 1 k_h2 rfl w1 rfl (by decide) dX3_order_71 (by omega) (fun H locs hP hS => ?_)
            obtain ⟨M_37, eM_37⟩ : ∃ Z, Z = mw_up M2 (h 2) (.inl ((k 3), 12, .inr (.inr (.inr (.inr (va_up (fun p => if p < n 1 then some (b 3 p) else none) (n 1) (some a9))))))) := ⟨_, rfl⟩
            have hP : mw_Q (mw_A M s.heap.size) D vwCl M_37 H := by rw [eM_37]; exact hP
            have f_38 : M_37 (h 0) = some (.inr (4, [.ref (h 1), .ref (h 2), .ref (h 3), .ref (h 4), .int (nI (n 0)), .int (nI (n 1)), .int (nI (n 2)), .int (nI (n 3))])) := by rw [eM_37, mw_up_n (fun h => by have h1 := k_h0; rw [h, k_h2] at h1; cases h1)]; exact k_h0
            have f_39 : M_37 (h 2) = some (.inl ((k 3), 12, .inr (.inr (.inr (.inr (va_up (fun p => if p < n 1 then some (b 3 p) else none) (n 1) (some a9))))))) := by rw [eM_37]; exact mw_up_s
            have f_40 : M_37 a9 = some (.inr (1, [.int 0, .ref q1, .ref q2, .int 0])) := by rw [eM_37, mw_up_n (Ne.symm nf_8_a9)]; exact w1
            refine lv_aload_n hx hb dX3_order_72 rfl (lv_at hl 2 rfl) ?_
            refine lv_dup hx hb dX3_order_73 rfl ?_
            refine mw_get (v := .int (nI (n 1))) (ci := 4) (T := TX3) (N := 8) (C := RX3) hE iX3_order_X3 hP f_38 rfl 5 (by decide) (hE.2.2.1 _ mX3_order_f35) rfl rfl dX3_order_74 ?_
            refine lv_dup_x1 hx hb dX3_order_77 rfl rfl ?_
            refine lv_iconst (v := 1) hx hb dX3_order_78 (by decide) ?_
            refine lv_iadd hx hb dX3_order_79 ?_
            refine rw_i (v := nI ((n 1) + 1)) (nI_1 _) ?_
            refine mw_put (ty := .int) (v := .int (nI ((n 1) + 1))) (ci := 4) (T := TX3) (N := 8) (C := RX3) hE iX3_order_X3 tyX3 tyX3_ok nmX3 hP hS f_38 rfl 5 (by decide) (hE.2.2.1 _ mX3_order_f35) rfl rfl (by decide +kernel) rfl rfl (Nat.le_of_ble_eq_true rfl) dX3_order_80 (fun H locs hP hS => ?_)
            obtain ⟨M_41, eM_41⟩ : ∃ Z, Z = mw_up M_37 (h 0) (.inr (4, [.ref (h 1), .ref (h 2), .ref (h 3), .ref (h 4), .int (nI (n 0)), .int (nI ((n 1) + 1)), .int (nI (n 2)), .int (nI (n 3))])) := ⟨_, rfl⟩
            have hP : mw_Q (mw_A M s.heap.size) D vwCl M_41 H := by rw [eM_41]; exact hP
            have f_42 : M_41 (h 0) = some (.inr (4, [.ref (h 1), .ref (h 2), .ref (h 3), .ref (h 4), .int (nI (n 0)), .int (nI ((n 1) + 1)), .int (nI (n 2)), .int (nI (n 3))])) := by rw [eM_41]; exact mw_up_s
            have f_43 : M_41 (h 2) = some (.inl ((k 3), 12, .inr (.inr (.inr (.inr (va_up (fun p => if p < n 1 then some (b 3 p) else none) (n 1) (some a9))))))) := by rw [eM_41, mw_up_n (fun h => by have h1 := f_39; rw [h, f_38] at h1; cases h1)]; exact f_39
            have f_44 : M_41 a9 = some (.inr (1, [.int 0, .ref q1, .ref q2, .int 0])) := by rw [eM_41, mw_up_n (Ne.symm nf_6_a9)]; exact f_40
            refine rw_cs (k := 4) (n := 772) (by decide) (by decide) ?_
            have hfin : ∀ y, y ≠ h 0 → y ≠ h 2 → y ≠ a9 → y ≠ q1 → y ≠ q2 → M_41 y = M y := fun y h1 h2 h3 h4 h5 => by rw [eM_41, mw_up_n h1, eM_37, mw_up_n h2, w3 y h3 h4 h5, eM_5, mw_up_n h3]
            have z_q1 : M q1 = none := by have hh := v_q1; rw [eM_5, mw_up_n (Ne.symm n_a9_q1)] at hh; exact hh
            have y_q1 := (show M_41 q1 = M2 q1 by rw [eM_41, mw_up_n (Ne.symm n_h0_q1), eM_37, mw_up_n (Ne.symm n_h2_q1)]).trans w2
            have z_q2 : M q2 = none := by have hh := v_q2; rw [eM_5, mw_up_n (Ne.symm n_a9_q2)] at hh; exact hh
            have y_q2 := (show M_41 q2 = M2 q2 by rw [eM_41, mw_up_n (Ne.symm n_h0_q2), eM_37, mw_up_n (Ne.symm n_h2_q2)]).trans w22
            obtain ⟨hRn, hTn⟩ := cp_addO hR hT hMa9 z_q1 z_q2 n_a9_q1 n_a9_q2 n_q1_q2 f_42 f_43 f_44 y_q1 y_q2 hfin
            exact mw_iret (v := nI (n 1)) hE hr hlocks hP hS dX3_order_83 (⟨_, _, _, _, _, hRn, hTn, sm_order hs hz (fun i hi => by rw [if_neg k_27, blk0 hi]; unfold fo; rw [if_neg k_27]; by_cases h00 : z = 0; (rw [if_pos h00]); (rw [if_neg h00]; unfold mnt; rw [if_pos hn0])) ((bz_f k_27).symm), Or.inr (Or.inr ⟨z, hz, rfl, by omega, rfl, rfl, rfl⟩)⟩)
      · have k_27 : z = 2 := nn_eq (a := z) (b := 2) c_27 (by omega) (by omega)
        refine lv_iconst (v := 1) hx hb dX3_order_30 (by decide) ?_
        refine lv_goto (tgt := 35) hx hb dX3_order_31 (by decide) ?_
        refine mw_callv hP hS hA (va_runI (As := [.int 1]) (rest := [.ref a9]) ⟨hx, hb, hml, hE.2.2.2.1, hE.2.2.1⟩ (tX0_init l D k _ _ a9 1 (Or.inr rfl) f_9) (cwI 1 hE.2.2.1 gX3_order_X0_init rfl rfl rfl (hE.2.2.1 _ mX3_order_iniRX0) (hE.2.2.1 _ mX3_order_ml82) (hE.2.2.1 _ mX3_order_imyX0_init) rfl (by decide +kernel) ⟨(Nat.le_of_ble_eq_true rfl), (Nat.le_of_ble_eq_true rfl)⟩) (mw_preS hE hP [.ref a9, .int 1]) rfl rfl hl.1 rfl (lv_room (Nat.le_of_ble_eq_true rfl)) dX3_order_35 ⟨(Nat.le_of_ble_eq_true rfl), (Nat.le_of_ble_eq_true rfl)⟩) (fun M2 H locs hw hP hS => ?_)
        refine rw_cs (k := 3) (n := 516) (by decide) (by decide) ?_
        obtain ⟨q1, q2, v_q1, v_q2, n_q1_q2, w1, w2, w22, w3⟩ := hw
        have n_a9_q1 : a9 ≠ q1 := mw_ne v_q1 f_9
        have n_a9_q2 : a9 ≠ q2 := mw_ne v_q2 f_9
        have n_h0_q1 := mw_ne v_q1 f_6
        have n_h0_q2 := mw_ne v_q2 f_6
        have k_h0 := (w3 (h 0) nf_6_a9 n_h0_q1 n_h0_q2).trans f_6
        have n_h1_q1 := mw_ne v_q1 f_7
        have n_h1_q2 := mw_ne v_q2 f_7
        have k_h1 := (w3 (h 1) nf_7_a9 n_h1_q1 n_h1_q2).trans f_7
        have n_h2_q1 := mw_ne v_q1 f_8
        have n_h2_q2 := mw_ne v_q2 f_8
        have k_h2 := (w3 (h 2) nf_8_a9 n_h2_q1 n_h2_q2).trans f_8
        refine lv_astore_n (lv' := [(2, .ref a9), (0, .ref (h 0)), (1, .int (nI z))]) hx hb dX3_order_38 rfl hl (by decide) rfl (fun ls hl => ?_)
        refine lv_aload_n hx hb dX3_order_39 rfl (lv_at hl 1 rfl) ?_
        refine lv_iconst (v := 0) hx hb dX3_order_40 (by decide) ?_
        refine mw_callq hP hS hA (va_runV (As := [.int 0]) (rest := []) ⟨hx, hb, hml, hE.2.2.2.1, hE.2.2.1⟩ (tX3_pageAt l D k _ _ h (fun j => nI (n (j - 4))) (n 0) (b 1) 0 hb0 k_h0 k_h1) (cwV 1 hE.2.2.1 gX3_order_X3_pageAt rfl rfl rfl (by decide +kernel) ⟨(Nat.le_of_ble_eq_true rfl), (Nat.le_of_ble_eq_true rfl)⟩) (mw_preV hE hP (ci := 4) rfl rfl k_h0 [.int 0]) rfl rfl hl.1 rfl (lv_room (Nat.le_of_ble_eq_true rfl)) dX3_order_41 ⟨(Nat.le_of_ble_eq_true rfl), (Nat.le_of_ble_eq_true rfl)⟩) (fun r0 M3 H locs hw hP hS => ?_)
        obtain ⟨hM3, hw⟩ := hw
        rw [hM3] at hP
        rcases hw with ⟨pp, hpp, epp, rfl⟩ | ⟨hq0, rfl⟩
        · obtain rfl : pp = 0 := by have := nn_eq (a := 0) (b := pp) epp (by omega) (by omega); omega
          have na_b10 : b 1 0 ≠ a9 := mw_ne hMa9 (fP 0 hpp).1
          have f1_b10 : M_5 (b 1 0) = M (b 1 0) := by rw [eM_5, mw_up_n na_b10]
          have na_b10_q1 : b 1 0 ≠ q1 := mw_ne v_q1 (f1_b10.trans (fP 0 hpp).1)
          have na_b10_q2 : b 1 0 ≠ q2 := mw_ne v_q2 (f1_b10.trans (fP 0 hpp).1)
          have kk_b10 := (w3 (b 1 0) na_b10 na_b10_q1 na_b10_q2).trans (f1_b10.trans (fP 0 hpp).1)
          have na_b20 : b 2 0 ≠ a9 := mw_ne hMa9 (fP 0 hpp).2
          have f1_b20 : M_5 (b 2 0) = M (b 2 0) := by rw [eM_5, mw_up_n na_b20]
          have na_b20_q1 : b 2 0 ≠ q1 := mw_ne v_q1 (f1_b20.trans (fP 0 hpp).2)
          have na_b20_q2 : b 2 0 ≠ q2 := mw_ne v_q2 (f1_b20.trans (fP 0 hpp).2)
          have kk_b20 := (w3 (b 2 0) na_b20 na_b20_q1 na_b20_q2).trans (f1_b20.trans (fP 0 hpp).2)
          refine lv_astore_n (lv' := [(3, .ref (b 1 0)), (2, .ref a9), (0, .ref (h 0)), (1, .int (nI z))]) hx hb dX3_order_44 rfl hl (by decide) rfl (fun ls hl => ?_)
          refine lv_iload_n hx hb dX3_order_45 rfl (lv_at hl 3 rfl) ?_
          refine lv_iconst (v := 1) hx hb dX3_order_46 (by decide) ?_
          refine lv_icmp_ne (tgt := 62) hx hb dX3_order_47 (by decide) (fun c_47 => ?_) (fun c_47 => ?_)
          · have k_47 : z ≠ 1 := nn_neq (a := z) (b := 1) c_47 (by omega) (by omega)
            refine lv_aload_n hx hb dX3_order_62 rfl (lv_at hl 2 rfl) ?_
            refine mw_get (v := .ref (h 2)) (ci := 4) (T := TX3) (N := 8) (C := RX3) hE iX3_order_X3 hP k_h0 rfl 1 (by decide) (hE.2.2.1 _ mX3_order_f17) rfl rfl dX3_order_63 ?_
            refine lv_aload_n hx hb dX3_order_66 rfl (lv_at hl 2 rfl) ?_
            refine mw_get (v := .int (nI (n 1))) (ci := 4) (T := TX3) (N := 8) (C := RX3) hE iX3_order_X3 hP k_h0 rfl 5 (by decide) (hE.2.2.1 _ mX3_order_f35) rfl rfl dX3_order_67 ?_
            refine lv_aload_n hx hb dX3_order_70 rfl (lv_at hl 1 rfl) ?_
            refine rw_aast hE hP hS 3 1 k_h2 rfl w1 rfl (by decide) dX3_order_71 (by omega) (fun H locs hP hS => ?_)
            obtain ⟨M_46, eM_46⟩ : ∃ Z, Z = mw_up M2 (h 2) (.inl ((k 3), 12, .inr (.inr (.inr (.inr (va_up (fun p => if p < n 1 then some (b 3 p) else none) (n 1) (some a9))))))) := ⟨_, rfl⟩
            have hP : mw_Q (mw_A M s.heap.size) D vwCl M_46 H := by rw [eM_46]; exact hP
            have f_47 : M_46 (h 0) = some (.inr (4, [.ref (h 1), .ref (h 2), .ref (h 3), .ref (h 4), .int (nI (n 0)), .int (nI (n 1)), .int (nI (n 2)), .int (nI (n 3))])) := by rw [eM_46, mw_up_n (fun h => by have h1 := k_h0; rw [h, k_h2] at h1; cases h1)]; exact k_h0
            have f_48 : M_46 (h 2) = some (.inl ((k 3), 12, .inr (.inr (.inr (.inr (va_up (fun p => if p < n 1 then some (b 3 p) else none) (n 1) (some a9))))))) := by rw [eM_46]; exact mw_up_s
            have f_49 : M_46 a9 = some (.inr (1, [.int 1, .ref q1, .ref q2, .int 0])) := by rw [eM_46, mw_up_n (Ne.symm nf_8_a9)]; exact w1
            refine lv_aload_n hx hb dX3_order_72 rfl (lv_at hl 2 rfl) ?_
            refine lv_dup hx hb dX3_order_73 rfl ?_
            refine mw_get (v := .int (nI (n 1))) (ci := 4) (T := TX3) (N := 8) (C := RX3) hE iX3_order_X3 hP f_47 rfl 5 (by decide) (hE.2.2.1 _ mX3_order_f35) rfl rfl dX3_order_74 ?_
            refine lv_dup_x1 hx hb dX3_order_77 rfl rfl ?_
            refine lv_iconst (v := 1) hx hb dX3_order_78 (by decide) ?_
            refine lv_iadd hx hb dX3_order_79 ?_
            refine rw_i (v := nI ((n 1) + 1)) (nI_1 _) ?_
            refine mw_put (ty := .int) (v := .int (nI ((n 1) + 1))) (ci := 4) (T := TX3) (N := 8) (C := RX3) hE iX3_order_X3 tyX3 tyX3_ok nmX3 hP hS f_47 rfl 5 (by decide) (hE.2.2.1 _ mX3_order_f35) rfl rfl (by decide +kernel) rfl rfl (Nat.le_of_ble_eq_true rfl) dX3_order_80 (fun H locs hP hS => ?_)
            obtain ⟨M_50, eM_50⟩ : ∃ Z, Z = mw_up M_46 (h 0) (.inr (4, [.ref (h 1), .ref (h 2), .ref (h 3), .ref (h 4), .int (nI (n 0)), .int (nI ((n 1) + 1)), .int (nI (n 2)), .int (nI (n 3))])) := ⟨_, rfl⟩
            have hP : mw_Q (mw_A M s.heap.size) D vwCl M_50 H := by rw [eM_50]; exact hP
            have f_51 : M_50 (h 0) = some (.inr (4, [.ref (h 1), .ref (h 2), .ref (h 3), .ref (h 4), .int (nI (n 0)), .int (nI ((n 1) + 1)), .int (nI (n 2)), .int (nI (n 3))])) := by rw [eM_50]; exact mw_up_s
            have f_52 : M_50 (h 2) = some (.inl ((k 3), 12, .inr (.inr (.inr (.inr (va_up (fun p => if p < n 1 then some (b 3 p) else none) (n 1) (some a9))))))) := by rw [eM_50, mw_up_n (fun h => by have h1 := f_48; rw [h, f_47] at h1; cases h1)]; exact f_48
            have f_53 : M_50 a9 = some (.inr (1, [.int 1, .ref q1, .ref q2, .int 0])) := by rw [eM_50, mw_up_n (Ne.symm nf_6_a9)]; exact f_49
            refine rw_cs (k := 4) (n := 772) (by decide) (by decide) ?_
            have hfin : ∀ y, y ≠ h 0 → y ≠ h 2 → y ≠ a9 → y ≠ q1 → y ≠ q2 → M_50 y = M y := fun y h1 h2 h3 h4 h5 => by rw [eM_50, mw_up_n h1, eM_46, mw_up_n h2, w3 y h3 h4 h5, eM_5, mw_up_n h3]
            have z_q1 : M q1 = none := by have hh := v_q1; rw [eM_5, mw_up_n (Ne.symm n_a9_q1)] at hh; exact hh
            have y_q1 := (show M_50 q1 = M2 q1 by rw [eM_50, mw_up_n (Ne.symm n_h0_q1), eM_46, mw_up_n (Ne.symm n_h2_q1)]).trans w2
            have z_q2 : M q2 = none := by have hh := v_q2; rw [eM_5, mw_up_n (Ne.symm n_a9_q2)] at hh; exact hh
            have y_q2 := (show M_50 q2 = M2 q2 by rw [eM_50, mw_up_n (Ne.symm n_h0_q2), eM_46, mw_up_n (Ne.symm n_h2_q2)]).trans w22
            obtain ⟨hRn, hTn⟩ := cp_addO hR hT hMa9 z_q1 z_q2 n_a9_q1 n_a9_q2 n_q1_q2 f_51 f_52 f_53 y_q1 y_q2 hfin
            exact mw_iret (v := nI (n 1)) hE hr hlocks hP hS dX3_order_83 (⟨_, _, _, _, _, hRn, hTn, sm_order hs hz (fun i hi => by rw [if_pos k_27, blk0 hi]) ((bz_t k_27).symm), Or.inr (Or.inr ⟨z, hz, rfl, by omega, rfl, rfl, rfl⟩)⟩)
          · have k_47 : z = 1 := nn_eq (a := z) (b := 1) c_47 (by omega) (by omega)
            refine lv_aload_n hx hb dX3_order_50 rfl (lv_at hl 0 rfl) ?_
            refine lv_ifnull hx hb dX3_order_51 ?_
            refine lv_aload_n hx hb dX3_order_54 rfl (lv_at hl 1 rfl) ?_
            refine lv_aload_n hx hb dX3_order_55 rfl (lv_at hl 0 rfl) ?_
            refine mw_get (v := .ref (b 2 0)) (ci := 2) (T := TX1) (N := 2) (C := RX1) hE iX3_order_X1 hP kk_b10 rfl 0 (by decide) (hE.2.2.1 _ mX3_order_f65) rfl rfl dX3_order_56 ?_
            refine mw_callv hP hS hA (va_runV (As := [.ref (b 2 0)]) (rest := []) ⟨hx, hb, hml, hE.2.2.2.1, hE.2.2.1⟩ (tX0_rankBy l D k _ _ a9 q1 q2 1 0 (blk (fun _ => 0) 0 256 nI) (fun _ => 0) w1 w2 w22 (b 2 0) (c9 1 0) kk_b20 (kx_inj sP hpp)) (cwV 1 hE.2.2.1 gX3_order_X0_rankBy rfl rfl rfl (by decide +kernel) ⟨(Nat.le_of_ble_eq_true rfl), (Nat.le_of_ble_eq_true rfl)⟩) (mw_preV hE hP (ci := 1) rfl rfl w1 [.ref (b 2 0)]) rfl rfl hl.1 rfl (lv_room (Nat.le_of_ble_eq_true rfl)) dX3_order_59 ⟨(Nat.le_of_ble_eq_true rfl), (Nat.le_of_ble_eq_true rfl)⟩) (fun M4 H locs hw hP hS => ?_)
            refine rw_cs (k := 4) (n := 772) (by decide) (by decide) ?_
            obtain ⟨R3, qt, v_qt, y1, y2, y3⟩ := hw
            have j_h0 := (y3 (h 0) (mw_ne v_qt k_h0) n_h0_q1).trans k_h0
            have j_h2 := (y3 (h 2) (mw_ne v_qt k_h2) n_h2_q1).trans k_h2
            have j_a9 := (y3 (a9) (mw_ne v_qt w1) n_a9_q1).trans w1
            have j_q2 := (y3 q2 (mw_ne v_qt w22) (Ne.symm n_q1_q2)).trans w22
            refine lv_aload_n hx hb dX3_order_62 rfl (lv_at hl 2 rfl) ?_
            refine mw_get (v := .ref (h 2)) (ci := 4) (T := TX3) (N := 8) (C := RX3) hE iX3_order_X3 hP j_h0 rfl 1 (by decide) (hE.2.2.1 _ mX3_order_f17) rfl rfl dX3_order_63 ?_
            refine lv_aload_n hx hb dX3_order_66 rfl (lv_at hl 2 rfl) ?_
            refine mw_get (v := .int (nI (n 1))) (ci := 4) (T := TX3) (N := 8) (C := RX3) hE iX3_order_X3 hP j_h0 rfl 5 (by decide) (hE.2.2.1 _ mX3_order_f35) rfl rfl dX3_order_67 ?_
            refine lv_aload_n hx hb dX3_order_70 rfl (lv_at hl 1 rfl) ?_
            refine rw_aast hE hP hS 3 1 j_h2 rfl j_a9 rfl (by decide) dX3_order_71 (by omega) (fun H locs hP hS => ?_)
            obtain ⟨M_54, eM_54⟩ : ∃ Z, Z = mw_up M4 (h 2) (.inl ((k 3), 12, .inr (.inr (.inr (.inr (va_up (fun p => if p < n 1 then some (b 3 p) else none) (n 1) (some a9))))))) := ⟨_, rfl⟩
            have hP : mw_Q (mw_A M s.heap.size) D vwCl M_54 H := by rw [eM_54]; exact hP
            have f_55 : M_54 (h 0) = some (.inr (4, [.ref (h 1), .ref (h 2), .ref (h 3), .ref (h 4), .int (nI (n 0)), .int (nI (n 1)), .int (nI (n 2)), .int (nI (n 3))])) := by rw [eM_54, mw_up_n (fun h => by have h1 := j_h0; rw [h, j_h2] at h1; cases h1)]; exact j_h0
            have f_56 : M_54 (h 2) = some (.inl ((k 3), 12, .inr (.inr (.inr (.inr (va_up (fun p => if p < n 1 then some (b 3 p) else none) (n 1) (some a9))))))) := by rw [eM_54]; exact mw_up_s
            have f_57 : M_54 a9 = some (.inr (1, [.int 1, .ref q1, .ref q2, .int 0])) := by rw [eM_54, mw_up_n (Ne.symm nf_8_a9)]; exact j_a9
            refine lv_aload_n hx hb dX3_order_72 rfl (lv_at hl 2 rfl) ?_
            refine lv_dup hx hb dX3_order_73 rfl ?_
            refine mw_get (v := .int (nI (n 1))) (ci := 4) (T := TX3) (N := 8) (C := RX3) hE iX3_order_X3 hP f_55 rfl 5 (by decide) (hE.2.2.1 _ mX3_order_f35) rfl rfl dX3_order_74 ?_
            refine lv_dup_x1 hx hb dX3_order_77 rfl rfl ?_
            refine lv_iconst (v := 1) hx hb dX3_order_78 (by decide) ?_
            refine lv_iadd hx hb dX3_order_79 ?_
            refine rw_i (v := nI ((n 1) + 1)) (nI_1 _) ?_
            refine mw_put (ty := .int) (v := .int (nI ((n 1) + 1))) (ci := 4) (T := TX3) (N := 8) (C := RX3) hE iX3_order_X3 tyX3 tyX3_ok nmX3 hP hS f_55 rfl 5 (by decide) (hE.2.2.1 _ mX3_order_f35) rfl rfl (by decide +kernel) rfl rfl (Nat.le_of_ble_eq_true rfl) dX3_order_80 (fun H locs hP hS => ?_)
            obtain ⟨M_58, eM_58⟩ : ∃ Z, Z = mw_up M_54 (h 0) (.inr (4, [.ref (h 1), .ref (h 2), .ref (h 3), .ref (h 4), .int (nI (n 0)), .int (nI ((n 1) + 1)), .int (nI (n 2)), .int (nI (n 3))])) := ⟨_, rfl⟩
            have hP : mw_Q (mw_A M s.heap.size) D vwCl M_58 H := by rw [eM_58]; exact hP
            have f_59 : M_58 (h 0) = some (.inr (4, [.ref (h 1), .ref (h 2), .ref (h 3), .ref (h 4), .int (nI (n 0)), .int (nI ((n 1) + 1)), .int (nI (n 2)), .int (nI (n 3))])) := by rw [eM_58]; exact mw_up_s
            have f_60 : M_58 (h 2) = some (.inl ((k 3), 12, .inr (.inr (.inr (.inr (va_up (fun p => if p < n 1 then some (b 3 p) else none) (n 1) (some a9))))))) := by rw [eM_58, mw_up_n (fun h => by have h1 := f_56; rw [h, f_55] at h1; cases h1)]; exact f_56
            have f_61 : M_58 a9 = some (.inr (1, [.int 1, .ref q1, .ref q2, .int 0])) := by rw [eM_58, mw_up_n (Ne.symm nf_6_a9)]; exact f_57
            have hqtM : ∀ y, y ≠ a9 → y ≠ q1 → y ≠ q2 → M y ≠ none → y ≠ qt := fun y h3 h4 h5 hm hh => by rw [hh] at h3 h4 h5 hm; have h9 := v_qt; rw [w3 qt h3 h4 h5, eM_5, mw_up_n h3] at h9; exact hm h9
            have hqt4 : ∀ y, y ≠ qt → y ≠ h 0 → y ≠ h 2 → y ≠ a9 → y ≠ q1 → y ≠ q2 → M_58 y = M y := fun y h0 h1 h2 h3 h4 h5 => by rw [eM_58, mw_up_n h1, eM_54, mw_up_n h2, y3 y h0 h4, w3 y h3 h4 h5, eM_5, mw_up_n h3]
            have z_q1 : M q1 = none := by have hh := v_q1; rw [eM_5, mw_up_n (Ne.symm n_a9_q1)] at hh; exact hh
            have y_q1 := (show M_58 q1 = M4 q1 by rw [eM_58, mw_up_n (Ne.symm n_h0_q1), eM_54, mw_up_n (Ne.symm n_h2_q1)]).trans y1
            have z_q2 : M q2 = none := by have hh := v_q2; rw [eM_5, mw_up_n (Ne.symm n_a9_q2)] at hh; exact hh
            have y_q2 := (show M_58 q2 = M4 q2 by rw [eM_58, mw_up_n (Ne.symm n_h0_q2), eM_54, mw_up_n (Ne.symm n_h2_q2)]).trans j_q2
            obtain ⟨hRn, hTn⟩ := cp_addOq hR hT hqtM hMa9 z_q1 z_q2 n_a9_q1 n_a9_q2 n_q1_q2 f_59 f_60 f_61 y_q1 y_q2 hqt4
            exact mw_iret (v := nI (n 1)) hE hr hlocks hP hS dX3_order_83 (⟨_, _, _, _, _, hRn, hTn, sm_order hs hz (fun i hi => by rw [if_neg (by omega), y2 i hi, mnt_rk sP hpp hi]; unfold fo; rw [if_neg (by omega), if_neg (by omega)]) ((bz_t k_27).symm), Or.inr (Or.inr ⟨z, hz, rfl, by omega, rfl, rfl, rfl⟩)⟩)
        · have hn0 : n 0 = 0 := by rcases Nat.eq_zero_or_pos (n 0) with hh | hh; exact hh; exact absurd (vp_in_nI (n := 0) hh (by omega)) hq0
          refine lv_astore_nN (lv' := [(3, .null), (2, .ref a9), (0, .ref (h 0)), (1, .int (nI z))]) hx hb dX3_order_44 rfl hl (by decide) rfl (fun ls hl => ?_)
          refine lv_iload_n hx hb dX3_order_45 rfl (lv_at hl 3 rfl) ?_
          refine lv_iconst (v := 1) hx hb dX3_order_46 (by decide) ?_
          refine lv_icmp_ne (tgt := 62) hx hb dX3_order_47 (by decide) (fun c_47 => ?_) (fun c_47 => ?_)
          · have k_47 : z ≠ 1 := nn_neq (a := z) (b := 1) c_47 (by omega) (by omega)
            refine lv_aload_n hx hb dX3_order_62 rfl (lv_at hl 2 rfl) ?_
            refine mw_get (v := .ref (h 2)) (ci := 4) (T := TX3) (N := 8) (C := RX3) hE iX3_order_X3 hP k_h0 rfl 1 (by decide) (hE.2.2.1 _ mX3_order_f17) rfl rfl dX3_order_63 ?_
            refine lv_aload_n hx hb dX3_order_66 rfl (lv_at hl 2 rfl) ?_
            refine mw_get (v := .int (nI (n 1))) (ci := 4) (T := TX3) (N := 8) (C := RX3) hE iX3_order_X3 hP k_h0 rfl 5 (by decide) (hE.2.2.1 _ mX3_order_f35) rfl rfl dX3_order_67 ?_
            refine lv_aload_n hx hb dX3_order_70 rfl (lv_at hl 1 rfl) ?_
            refine rw_aast hE hP hS 3 1 k_h2 rfl w1 rfl (by decide) dX3_order_71 (by omega) (fun H locs hP hS => ?_)
            obtain ⟨M_63, eM_63⟩ : ∃ Z, Z = mw_up M2 (h 2) (.inl ((k 3), 12, .inr (.inr (.inr (.inr (va_up (fun p => if p < n 1 then some (b 3 p) else none) (n 1) (some a9))))))) := ⟨_, rfl⟩
            have hP : mw_Q (mw_A M s.heap.size) D vwCl M_63 H := by rw [eM_63]; exact hP
            have f_64 : M_63 (h 0) = some (.inr (4, [.ref (h 1), .ref (h 2), .ref (h 3), .ref (h 4), .int (nI (n 0)), .int (nI (n 1)), .int (nI (n 2)), .int (nI (n 3))])) := by rw [eM_63, mw_up_n (fun h => by have h1 := k_h0; rw [h, k_h2] at h1; cases h1)]; exact k_h0
            have f_65 : M_63 (h 2) = some (.inl ((k 3), 12, .inr (.inr (.inr (.inr (va_up (fun p => if p < n 1 then some (b 3 p) else none) (n 1) (some a9))))))) := by rw [eM_63]; exact mw_up_s
            have f_66 : M_63 a9 = some (.inr (1, [.int 1, .ref q1, .ref q2, .int 0])) := by rw [eM_63, mw_up_n (Ne.symm nf_8_a9)]; exact w1
            refine lv_aload_n hx hb dX3_order_72 rfl (lv_at hl 2 rfl) ?_
            refine lv_dup hx hb dX3_order_73 rfl ?_
            refine mw_get (v := .int (nI (n 1))) (ci := 4) (T := TX3) (N := 8) (C := RX3) hE iX3_order_X3 hP f_64 rfl 5 (by decide) (hE.2.2.1 _ mX3_order_f35) rfl rfl dX3_order_74 ?_
            refine lv_dup_x1 hx hb dX3_order_77 rfl rfl ?_
            refine lv_iconst (v := 1) hx hb dX3_order_78 (by decide) ?_
            refine lv_iadd hx hb dX3_order_79 ?_
            refine rw_i (v := nI ((n 1) + 1)) (nI_1 _) ?_
            refine mw_put (ty := .int) (v := .int (nI ((n 1) + 1))) (ci := 4) (T := TX3) (N := 8) (C := RX3) hE iX3_order_X3 tyX3 tyX3_ok nmX3 hP hS f_64 rfl 5 (by decide) (hE.2.2.1 _ mX3_order_f35) rfl rfl (by decide +kernel) rfl rfl (Nat.le_of_ble_eq_true rfl) dX3_order_80 (fun H locs hP hS => ?_)
            obtain ⟨M_67, eM_67⟩ : ∃ Z, Z = mw_up M_63 (h 0) (.inr (4, [.ref (h 1), .ref (h 2), .ref (h 3), .ref (h 4), .int (nI (n 0)), .int (nI ((n 1) + 1)), .int (nI (n 2)), .int (nI (n 3))])) := ⟨_, rfl⟩
            have hP : mw_Q (mw_A M s.heap.size) D vwCl M_67 H := by rw [eM_67]; exact hP
            have f_68 : M_67 (h 0) = some (.inr (4, [.ref (h 1), .ref (h 2), .ref (h 3), .ref (h 4), .int (nI (n 0)), .int (nI ((n 1) + 1)), .int (nI (n 2)), .int (nI (n 3))])) := by rw [eM_67]; exact mw_up_s
            have f_69 : M_67 (h 2) = some (.inl ((k 3), 12, .inr (.inr (.inr (.inr (va_up (fun p => if p < n 1 then some (b 3 p) else none) (n 1) (some a9))))))) := by rw [eM_67, mw_up_n (fun h => by have h1 := f_65; rw [h, f_64] at h1; cases h1)]; exact f_65
            have f_70 : M_67 a9 = some (.inr (1, [.int 1, .ref q1, .ref q2, .int 0])) := by rw [eM_67, mw_up_n (Ne.symm nf_6_a9)]; exact f_66
            refine rw_cs (k := 4) (n := 772) (by decide) (by decide) ?_
            have hfin : ∀ y, y ≠ h 0 → y ≠ h 2 → y ≠ a9 → y ≠ q1 → y ≠ q2 → M_67 y = M y := fun y h1 h2 h3 h4 h5 => by rw [eM_67, mw_up_n h1, eM_63, mw_up_n h2, w3 y h3 h4 h5, eM_5, mw_up_n h3]
            have z_q1 : M q1 = none := by have hh := v_q1; rw [eM_5, mw_up_n (Ne.symm n_a9_q1)] at hh; exact hh
            have y_q1 := (show M_67 q1 = M2 q1 by rw [eM_67, mw_up_n (Ne.symm n_h0_q1), eM_63, mw_up_n (Ne.symm n_h2_q1)]).trans w2
            have z_q2 : M q2 = none := by have hh := v_q2; rw [eM_5, mw_up_n (Ne.symm n_a9_q2)] at hh; exact hh
            have y_q2 := (show M_67 q2 = M2 q2 by rw [eM_67, mw_up_n (Ne.symm n_h0_q2), eM_63, mw_up_n (Ne.symm n_h2_q2)]).trans w22
            obtain ⟨hRn, hTn⟩ := cp_addO hR hT hMa9 z_q1 z_q2 n_a9_q1 n_a9_q2 n_q1_q2 f_68 f_69 f_70 y_q1 y_q2 hfin
            exact mw_iret (v := nI (n 1)) hE hr hlocks hP hS dX3_order_83 (⟨_, _, _, _, _, hRn, hTn, sm_order hs hz (fun i hi => by rw [if_pos k_27, blk0 hi]) ((bz_t k_27).symm), Or.inr (Or.inr ⟨z, hz, rfl, by omega, rfl, rfl, rfl⟩)⟩)
          · have k_47 : z = 1 := nn_eq (a := z) (b := 1) c_47 (by omega) (by omega)
            refine lv_aload_nN hx hb dX3_order_50 rfl (lv_at hl 0 rfl) ?_
            refine lv_ifnullN (tgt := 62) hx hb dX3_order_51 (by decide) ?_
            refine lv_aload_n hx hb dX3_order_62 rfl (lv_at hl 2 rfl) ?_
            refine mw_get (v := .ref (h 2)) (ci := 4) (T := TX3) (N := 8) (C := RX3) hE iX3_order_X3 hP k_h0 rfl 1 (by decide) (hE.2.2.1 _ mX3_order_f17) rfl rfl dX3_order_63 ?_
            refine lv_aload_n hx hb dX3_order_66 rfl (lv_at hl 2 rfl) ?_
            refine mw_get (v := .int (nI (n 1))) (ci := 4) (T := TX3) (N := 8) (C := RX3) hE iX3_order_X3 hP k_h0 rfl 5 (by decide) (hE.2.2.1 _ mX3_order_f35) rfl rfl dX3_order_67 ?_
            refine lv_aload_n hx hb dX3_order_70 rfl (lv_at hl 1 rfl) ?_
            refine rw_aast hE hP hS 3 1 k_h2 rfl w1 rfl (by decide) dX3_order_71 (by omega) (fun H locs hP hS => ?_)
            obtain ⟨M_71, eM_71⟩ : ∃ Z, Z = mw_up M2 (h 2) (.inl ((k 3), 12, .inr (.inr (.inr (.inr (va_up (fun p => if p < n 1 then some (b 3 p) else none) (n 1) (some a9))))))) := ⟨_, rfl⟩
            have hP : mw_Q (mw_A M s.heap.size) D vwCl M_71 H := by rw [eM_71]; exact hP
            have f_72 : M_71 (h 0) = some (.inr (4, [.ref (h 1), .ref (h 2), .ref (h 3), .ref (h 4), .int (nI (n 0)), .int (nI (n 1)), .int (nI (n 2)), .int (nI (n 3))])) := by rw [eM_71, mw_up_n (fun h => by have h1 := k_h0; rw [h, k_h2] at h1; cases h1)]; exact k_h0
            have f_73 : M_71 (h 2) = some (.inl ((k 3), 12, .inr (.inr (.inr (.inr (va_up (fun p => if p < n 1 then some (b 3 p) else none) (n 1) (some a9))))))) := by rw [eM_71]; exact mw_up_s
            have f_74 : M_71 a9 = some (.inr (1, [.int 1, .ref q1, .ref q2, .int 0])) := by rw [eM_71, mw_up_n (Ne.symm nf_8_a9)]; exact w1
            refine lv_aload_n hx hb dX3_order_72 rfl (lv_at hl 2 rfl) ?_
            refine lv_dup hx hb dX3_order_73 rfl ?_
            refine mw_get (v := .int (nI (n 1))) (ci := 4) (T := TX3) (N := 8) (C := RX3) hE iX3_order_X3 hP f_72 rfl 5 (by decide) (hE.2.2.1 _ mX3_order_f35) rfl rfl dX3_order_74 ?_
            refine lv_dup_x1 hx hb dX3_order_77 rfl rfl ?_
            refine lv_iconst (v := 1) hx hb dX3_order_78 (by decide) ?_
            refine lv_iadd hx hb dX3_order_79 ?_
            refine rw_i (v := nI ((n 1) + 1)) (nI_1 _) ?_
            refine mw_put (ty := .int) (v := .int (nI ((n 1) + 1))) (ci := 4) (T := TX3) (N := 8) (C := RX3) hE iX3_order_X3 tyX3 tyX3_ok nmX3 hP hS f_72 rfl 5 (by decide) (hE.2.2.1 _ mX3_order_f35) rfl rfl (by decide +kernel) rfl rfl (Nat.le_of_ble_eq_true rfl) dX3_order_80 (fun H locs hP hS => ?_)
            obtain ⟨M_75, eM_75⟩ : ∃ Z, Z = mw_up M_71 (h 0) (.inr (4, [.ref (h 1), .ref (h 2), .ref (h 3), .ref (h 4), .int (nI (n 0)), .int (nI ((n 1) + 1)), .int (nI (n 2)), .int (nI (n 3))])) := ⟨_, rfl⟩
            have hP : mw_Q (mw_A M s.heap.size) D vwCl M_75 H := by rw [eM_75]; exact hP
            have f_76 : M_75 (h 0) = some (.inr (4, [.ref (h 1), .ref (h 2), .ref (h 3), .ref (h 4), .int (nI (n 0)), .int (nI ((n 1) + 1)), .int (nI (n 2)), .int (nI (n 3))])) := by rw [eM_75]; exact mw_up_s
            have f_77 : M_75 (h 2) = some (.inl ((k 3), 12, .inr (.inr (.inr (.inr (va_up (fun p => if p < n 1 then some (b 3 p) else none) (n 1) (some a9))))))) := by rw [eM_75, mw_up_n (fun h => by have h1 := f_73; rw [h, f_72] at h1; cases h1)]; exact f_73
            have f_78 : M_75 a9 = some (.inr (1, [.int 1, .ref q1, .ref q2, .int 0])) := by rw [eM_75, mw_up_n (Ne.symm nf_6_a9)]; exact f_74
            refine rw_cs (k := 4) (n := 772) (by decide) (by decide) ?_
            have hfin : ∀ y, y ≠ h 0 → y ≠ h 2 → y ≠ a9 → y ≠ q1 → y ≠ q2 → M_75 y = M y := fun y h1 h2 h3 h4 h5 => by rw [eM_75, mw_up_n h1, eM_71, mw_up_n h2, w3 y h3 h4 h5, eM_5, mw_up_n h3]
            have z_q1 : M q1 = none := by have hh := v_q1; rw [eM_5, mw_up_n (Ne.symm n_a9_q1)] at hh; exact hh
            have y_q1 := (show M_75 q1 = M2 q1 by rw [eM_75, mw_up_n (Ne.symm n_h0_q1), eM_71, mw_up_n (Ne.symm n_h2_q1)]).trans w2
            have z_q2 : M q2 = none := by have hh := v_q2; rw [eM_5, mw_up_n (Ne.symm n_a9_q2)] at hh; exact hh
            have y_q2 := (show M_75 q2 = M2 q2 by rw [eM_75, mw_up_n (Ne.symm n_h0_q2), eM_71, mw_up_n (Ne.symm n_h2_q2)]).trans w22
            obtain ⟨hRn, hTn⟩ := cp_addO hR hT hMa9 z_q1 z_q2 n_a9_q1 n_a9_q2 n_q1_q2 f_76 f_77 f_78 y_q1 y_q2 hfin
            exact mw_iret (v := nI (n 1)) hE hr hlocks hP hS dX3_order_83 (⟨_, _, _, _, _, hRn, hTn, sm_order hs hz (fun i hi => by rw [if_pos k_27, blk0 hi]) ((bz_t k_27).symm), Or.inr (Or.inr ⟨z, hz, rfl, by omega, rfl, rfl, rfl⟩)⟩)
    · have k_16 : 12 ≤ (n 1) := nn_nlt (a := (n 1)) (b := 12) c_16 (by omega) (by omega)
      refine lv_iconst (v := (-1)) hx hb dX3_order_19 (by decide) ?_
      refine rw_cs (k := 4) (n := 772) (by decide) (by decide) ?_
      exact mw_iret (v := (-1)) hE hr hlocks hP hS dX3_order_20 (⟨b, T, n, c9, g, hR, hT, hs, Or.inr (Or.inl ⟨vp_in_nI hz (by omega), by omega, rfl, rfl, rfl⟩)⟩)
  · skip
    refine lv_if_ne (tgt := 10) hx hb dX3_order_4 (by decide) (fun c9 => absurd (by decide) c9) (fun _ => ?_)
    refine lv_bipush (v := (-4)) hx hb dX3_order_7 (by decide) ?_
    refine rw_cs (k := 4) (n := 772) (by decide) (by decide) ?_
    exact mw_iret (v := (-4)) hE hr hlocks hP hS dX3_order_9 (⟨b, T, n, c9, g, hR, hT, hs, Or.inl ⟨hq_2, rfl, rfl, rfl⟩⟩)
