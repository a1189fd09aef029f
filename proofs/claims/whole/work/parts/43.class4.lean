set_option maxRecDepth 20000 in
theorem mX3_told_f27 : Cond.fieldLink RX3 27 "CodePages" "listed" "[I" ∈ wsX3_told := by decide +kernel
set_option maxRecDepth 20000 in
theorem mX3_told_f41 : Cond.fieldLink RX3 41 "CodePages" "listedCount" "I" ∈ wsX3_told := by decide +kernel
set_option maxRecDepth 20000 in
theorem iX3_told_X3 : ∀ w ∈ u_ws RX3 TX3 8, w ∈ wsX3_told := by decide +kernel
set_option maxHeartbeats 4000000 in
set_option maxRecDepth 100000 in
theorem tX3_told (l : Launch) (D : va_G) (k : Nat → ClassId) (M : mw) (sz : Nat) (h : Nat → Nat) (b : Nat → Nat → Nat) (T : Nat → Nat × Nat) (n : Nat → Nat) (c9 : Nat → Nat → Nat → Int32) (g : Nat → Nat → Int32) (L : Nat → Nat) (X : Nat → Nat → Nat) (x : Int32) (hR : cp_R k h b n c9 M) (hT : cp_T h b T n) (hn9 : mo_B n) (hs : sm n c9 g L X) : Met l yX3_told wsX3_told ({ frames := 0, cells := 0, slots := 0, locals := 0 }) (va_Pc [.ref (h 0), .int x] (mw_U D vwCl (TY k) M sz)) (va_Qi (fun r M1 => M1 = M ∧ R_told n g x r) (mw_B D vwCl M sz) (mw_A M sz)) 0 0 (mw_A M sz) := by
  refine mw_met (cc := cX3_told) (maxL := 2) (ret := (some .int)) (lv := [(0, .ref (h 0)), (1, .int x)]) (by decide) rfl (Nat.le_of_ble_eq_true rfl) rfl ?_
  intro p e s m below meth c ls hE hr hlocks hin hml hsz hP hS hl
  subst hsz
  have hx := hE.1
  have hb := hE.2.1
  have hA : ∀ q, s.heap.size ≤ q → mw_A M s.heap.size q := fun q h => Or.inr h
  obtain ⟨hb0, hb1, hb2, hb3⟩ := id hn9
  obtain ⟨⟨f0, f1, f2, f3, f4⟩, fP, fO, fX⟩ := id hR
  obtain ⟨sP, sO, sX, sG, sL⟩ := id hs
  refine lv_iload_n hx hb dX3_told_0 rfl (lv_at hl 1 rfl) ?_
  refine lv_if_lt (tgt := 21) hx hb dX3_told_1 (by decide) (fun c_1 => ?_) (fun c_1 => ?_)
  · refine lv_iconst (v := (-1)) hx hb dX3_told_21 (by decide) ?_
    exact mw_iret (v := (-1)) hE hr hlocks hP hS dX3_told_22 (⟨rfl, Or.inl ⟨fun q => ((rw_in (n := n 3) (by omega)).mp q).1 c_1, rfl⟩⟩)
  · refine lv_iload_n hx hb dX3_told_4 rfl (lv_at hl 1 rfl) ?_
    refine lv_aload_n hx hb dX3_told_5 rfl (lv_at hl 0 rfl) ?_
    refine mw_get (v := .int (nI (n 3))) (ci := 4) (T := TX3) (N := 8) (C := RX3) hE iX3_told_X3 hP f0 rfl 7 (by decide) (hE.2.2.1 _ mX3_told_f41) rfl rfl dX3_told_6 ?_
    refine lv_icmp_ge (tgt := 21) hx hb dX3_told_9 (by decide) (fun c_9 => ?_) (fun c_9 => ?_)
    · refine lv_iconst (v := (-1)) hx hb dX3_told_21 (by decide) ?_
      exact mw_iret (v := (-1)) hE hr hlocks hP hS dX3_told_22 (⟨rfl, Or.inl ⟨fun q => ((rw_in (n := n 3) (by omega)).mp q).2 c_9, rfl⟩⟩)
    · obtain ⟨i, hi, rfl⟩ := vp_in_of ((rw_in (n := n 3) (by omega)).mpr ⟨c_1, c_9⟩) (by omega)
      refine lv_aload_n hx hb dX3_told_12 rfl (lv_at hl 0 rfl) ?_
      refine mw_get (v := .ref (h 4)) (ci := 4) (T := TX3) (N := 8) (C := RX3) hE iX3_told_X3 hP f0 rfl 3 (by decide) (hE.2.2.1 _ mX3_told_f27) rfl rfl dX3_told_13 ?_
      refine lv_iload_n hx hb dX3_told_16 rfl (lv_at hl 1 rfl) ?_
      refine rw_iald hE hP 0 f4 rfl (by decide) dX3_told_17 (by omega) ?_
      refine lv_goto (tgt := 22) hx hb dX3_told_18 (by decide) ?_
      exact mw_iret (v := (c9 9 0) i) hE hr hlocks hP hS dX3_told_22 (⟨rfl, Or.inr ⟨i, hi, rfl, sL i hi⟩⟩)

set_option maxRecDepth 20000 in
theorem mX3_set_f65 : Cond.fieldLink RX3 65 "CodePages$Page" "meanings" "[I" ∈ wsX3_set := by decide +kernel
set_option maxRecDepth 20000 in
theorem iX3_set_X1 : ∀ w ∈ u_ws RX1 TX1 2, w ∈ wsX3_set := by decide +kernel
set_option maxHeartbeats 4000000 in
set_option maxRecDepth 100000 in
theorem tX3_set (l : Launch) (D : va_G) (k : Nat → ClassId) (M : mw) (sz : Nat) (h : Nat → Nat) (b : Nat → Nat → Nat) (T : Nat → Nat × Nat) (n : Nat → Nat) (c9 : Nat → Nat → Nat → Int32) (g : Nat → Nat → Int32) (L : Nat → Nat) (X : Nat → Nat → Nat) (x y u : Int32) (hR : cp_R k h b n c9 M) (hT : cp_T h b T n) (hn9 : mo_B n) (hs : sm n c9 g L X) : Met l yX3_set wsX3_set ({ frames := 1, cells := 0, slots := 0, locals := 22 }) (va_Pc [.ref (h 0), .int x, .int y, .int u] (mw_U D vwCl (TY k) M sz)) (va_Qi (fun r M1 => ∃ c1 g1, cp_R k h b n c1 M1 ∧ sm n c1 g1 L X ∧ R_set n g x y u r g1) (mw_B D vwCl M sz) (mw_A M sz)) 0 0 (mw_A M sz) := by
  refine mw_met (cc := cX3_set) (maxL := 6) (ret := (some .int)) (lv := [(0, .ref (h 0)), (1, .int x), (2, .int y), (3, .int u)]) (by decide) rfl (Nat.le_of_ble_eq_true rfl) rfl ?_
  intro p e s m below meth c ls hE hr hlocks hin hml hsz hP hS hl
  subst hsz
  have hx := hE.1
  have hb := hE.2.1
  have hA : ∀ q, s.heap.size ≤ q → mw_A M s.heap.size q := fun q h => Or.inr h
  obtain ⟨hb0, hb1, hb2, hb3⟩ := id hn9
  obtain ⟨⟨f0, f1, f2, f3, f4⟩, fP, fO, fX⟩ := id hR
  obtain ⟨sP, sO, sX, sG, sL⟩ := id hs
  refine lv_aload_n hx hb dX3_set_0 rfl (lv_at hl 0 rfl) ?_
  refine lv_iload_n hx hb dX3_set_1 rfl (lv_at hl 1 rfl) ?_
  refine mw_callq hP hS hA (va_runV (As := [.int x]) (rest := []) ⟨hx, hb, hml, hE.2.2.2.1, hE.2.2.1⟩ (tX3_pageAt l D k _ _ h (fun j => nI (n (j - 4))) (n 0) (b 1) x hb0 f0 f1) (cwV 1 hE.2.2.1 gX3_set_X3_pageAt rfl rfl rfl (by decide +kernel) ⟨(Nat.le_of_ble_eq_true rfl), (Nat.le_of_ble_eq_true rfl)⟩) (mw_preV hE hP (ci := 4) rfl rfl f0 [.int x]) rfl rfl hl.1 rfl (lv_room (Nat.le_of_ble_eq_true rfl)) dX3_set_2 ⟨(Nat.le_of_ble_eq_true rfl), (Nat.le_of_ble_eq_true rfl)⟩) (fun r_1 M1 H locs hw hP hS => ?_)
  obtain ⟨hM1, hw⟩ := hw
  rw [hM1] at hP
  rcases hw with ⟨pp, hpp, rfl, rfl⟩ | ⟨hq_2, rfl⟩
  · skip
    refine lv_astore (lv' := [(4, .ref (b 1 pp)), (0, .ref (h 0)), (1, .int (nI pp)), (2, .int y), (3, .int u)]) hx hb dX3_set_5 hl (by decide) rfl (fun ls hl => ?_)
    refine lv_aload hx hb dX3_set_7 (lv_at hl 0 rfl) ?_
    refine lv_ifnonnull (tgt := 15) hx hb dX3_set_9 (by decide) ?_
    refine lv_iload_n hx hb dX3_set_15 rfl (lv_at hl 3 rfl) ?_
    refine mw_calli hP hS hA (va_runS (As := [.int y]) (rest := []) ⟨hx, hb, hml, hE.2.2.2.1, hE.2.2.1⟩ (tX3_isCode l D k _ _ y) (va_cwS 1 hE.2.2.1 gX3_set_X3_isCode rfl rfl rfl (by decide +kernel) ⟨(Nat.le_of_ble_eq_true rfl), (Nat.le_of_ble_eq_true rfl)⟩) (mw_preS hE hP [.int y]) rfl rfl hl.1 rfl (lv_room (Nat.le_of_ble_eq_true rfl)) dX3_set_16 ⟨(Nat.le_of_ble_eq_true rfl), (Nat.le_of_ble_eq_true rfl)⟩) (fun r_3 M1 H locs hw hP hS => ?_)
    obtain ⟨hM1, hw⟩ := hw
    rw [hM1] at hP
    rcases hw with ⟨hq_4, rfl⟩ | ⟨hq_4, rfl⟩
    · obtain ⟨j, hj, rfl⟩ := vp_in_of hq_4 (by omega)
      skip
      refine lv_if_eq (tgt := 29) hx hb dX3_set_19 (by decide) (fun c9 => absurd c9 (by decide)) (fun _ => ?_)
      refine lv_iload_n hx hb dX3_set_22 rfl (lv_at hl 4 rfl) ?_
      refine mw_calli hP hS hA (va_runS (As := [.int u]) (rest := []) ⟨hx, hb, hml, hE.2.2.2.1, hE.2.2.1⟩ (tX3_isMeaningOrNone l D k _ _ u) (va_cwS 1 hE.2.2.1 gX3_set_X3_isMeaningOrNone rfl rfl rfl (by decide +kernel) ⟨(Nat.le_of_ble_eq_true rfl), (Nat.le_of_ble_eq_true rfl)⟩) (mw_preS hE hP [.int u]) rfl rfl hl.1 rfl (lv_room (Nat.le_of_ble_eq_true rfl)) dX3_set_23 ⟨(Nat.le_of_ble_eq_true rfl), (Nat.le_of_ble_eq_true rfl)⟩) (fun r_6 M1 H locs hw hP hS => ?_)
      obtain ⟨hM1, hw⟩ := hw
      rw [hM1] at hP
      rcases hw with ⟨hq_7, rfl⟩ | ⟨hq_7, rfl⟩
      · skip
        refine lv_if_ne (tgt := 32) hx hb dX3_set_26 (by decide) (fun _ => ?_) (fun c9 => absurd c9 (by decide))
        refine lv_aload hx hb dX3_set_32 (lv_at hl 0 rfl) ?_
        refine lv_iload_n hx hb dX3_set_34 rfl (lv_at hl 4 rfl) ?_
        refine mw_calli hP hS hA (va_runV (As := [.int u]) (rest := []) ⟨hx, hb, hml, hE.2.2.2.1, hE.2.2.1⟩ (tX1_codeThatMeans l D k _ _ (b 1 pp) (b 2 pp) (c9 1 pp) (c9 2 pp 0) u (fP pp hpp).1 (fP pp hpp).2) (cwV 1 hE.2.2.1 gX3_set_X1_codeThatMeans rfl rfl rfl (by decide +kernel) ⟨(Nat.le_of_ble_eq_true rfl), (Nat.le_of_ble_eq_true rfl)⟩) (mw_preV hE hP (ci := 2) rfl rfl ((fP pp hpp).1) [.int u]) rfl rfl hl.1 rfl (lv_room (Nat.le_of_ble_eq_true rfl)) dX3_set_35 ⟨(Nat.le_of_ble_eq_true rfl), (Nat.le_of_ble_eq_true rfl)⟩) (fun r_9 M1 H locs hw hP hS => ?_)
        obtain ⟨hM1, er_9⟩ := hw
        rw [hM1] at hP
        rw [(mf_spec sP hpp u).1] at er_9
        refine lv_istore (lv' := [(5, .int r_9), (4, .ref (b 1 pp)), (0, .ref (h 0)), (1, .int (nI pp)), (2, .int (nI j)), (3, .int u)]) hx hb dX3_set_38 hl (by decide) rfl (fun ls hl => ?_)
        refine lv_iload hx hb dX3_set_40 (lv_at hl 0 rfl) ?_
        refine lv_iconst (v := (-1)) hx hb dX3_set_42 (by decide) ?_
        refine lv_icmp_eq (tgt := 54) hx hb dX3_set_43 (by decide) (fun c_43 => ?_) (fun c_43 => ?_)
        · refine lv_aload hx hb dX3_set_54 (lv_at hl 1 rfl) ?_
          refine mw_get (v := .ref (b 2 pp)) (ci := 2) (T := TX1) (N := 2) (C := RX1) hE iX3_set_X1 hP ((fP pp hpp).1) rfl 0 (by decide) (hE.2.2.1 _ mX3_set_f65) rfl rfl dX3_set_56 ?_
          refine lv_iload_n hx hb dX3_set_59 rfl (lv_at hl 4 rfl) ?_
          refine lv_iload_n hx hb dX3_set_60 rfl (lv_at hl 5 rfl) ?_
          refine rw_iast hE hP hS 0 ((fP pp hpp).2) rfl (by decide) dX3_set_61 (by omega) (fun H locs hP hS => ?_)
          obtain ⟨M_11, eM_11⟩ : ∃ Z, Z = mw_up M (b 2 pp) (.inl ((k 0), 256, .inl (upd (c9 1 pp) j u))) := ⟨_, rfl⟩
          have hP : mw_Q (mw_A M s.heap.size) D vwCl M_11 H := by rw [eM_11]; exact hP
          have f_12 : M_11 (b 2 pp) = some (.inl ((k 0), 256, .inl (upd (c9 1 pp) j u))) := by rw [eM_11]; exact mw_up_s
          refine lv_iconst (v := 1) hx hb dX3_set_62 (by decide) ?_
          exact mw_iret (v := 1) hE hr hlocks hP hS dX3_set_63 (⟨_, _, cp_set1 hR hT hpp f_12 (fun x hx => by rw [eM_11, mw_up_n hx]), sm_set hs hpp hj hq_7 (Or.inl (by rw [← er_9]; exact c_43)), Or.inr (Or.inr ⟨pp, j, hpp, hj, rfl, rfl, hq_7, Or.inr ⟨rfl, (Or.inl (by rw [← er_9]; exact c_43)), rfl⟩⟩)⟩)
        · refine lv_iload hx hb dX3_set_46 (lv_at hl 0 rfl) ?_
          refine lv_iload_n hx hb dX3_set_48 rfl (lv_at hl 4 rfl) ?_
          refine lv_icmp_eq (tgt := 54) hx hb dX3_set_49 (by decide) (fun c_49 => ?_) (fun c_49 => ?_)
          · refine lv_aload hx hb dX3_set_54 (lv_at hl 1 rfl) ?_
            refine mw_get (v := .ref (b 2 pp)) (ci := 2) (T := TX1) (N := 2) (C := RX1) hE iX3_set_X1 hP ((fP pp hpp).1) rfl 0 (by decide) (hE.2.2.1 _ mX3_set_f65) rfl rfl dX3_set_56 ?_
            refine lv_iload_n hx hb dX3_set_59 rfl (lv_at hl 4 rfl) ?_
            refine lv_iload_n hx hb dX3_set_60 rfl (lv_at hl 5 rfl) ?_
            refine rw_iast hE hP hS 0 ((fP pp hpp).2) rfl (by decide) dX3_set_61 (by omega) (fun H locs hP hS => ?_)
            obtain ⟨M_14, eM_14⟩ : ∃ Z, Z = mw_up M (b 2 pp) (.inl ((k 0), 256, .inl (upd (c9 1 pp) j u))) := ⟨_, rfl⟩
            have hP : mw_Q (mw_A M s.heap.size) D vwCl M_14 H := by rw [eM_14]; exact hP
            have f_15 : M_14 (b 2 pp) = some (.inl ((k 0), 256, .inl (upd (c9 1 pp) j u))) := by rw [eM_14]; exact mw_up_s
            refine lv_iconst (v := 1) hx hb dX3_set_62 (by decide) ?_
            exact mw_iret (v := 1) hE hr hlocks hP hS dX3_set_63 (⟨_, _, cp_set1 hR hT hpp f_15 (fun x hx => by rw [eM_14, mw_up_n hx]), sm_set hs hpp hj hq_7 (Or.inr (by rw [← er_9]; exact c_49)), Or.inr (Or.inr ⟨pp, j, hpp, hj, rfl, rfl, hq_7, Or.inr ⟨rfl, (Or.inr (by rw [← er_9]; exact c_49)), rfl⟩⟩)⟩)
          · refine lv_iconst (v := 0) hx hb dX3_set_52 (by decide) ?_
            exact mw_iret (v := 0) hE hr hlocks hP hS dX3_set_53 (⟨c9, g, hR, hs, Or.inr (Or.inr ⟨pp, j, hpp, hj, rfl, rfl, hq_7, Or.inl ⟨rfl, rfl, by rw [← er_9]; exact c_43, by rw [← er_9]; exact c_49⟩⟩)⟩)
      · skip
        refine lv_if_ne (tgt := 32) hx hb dX3_set_26 (by decide) (fun c9 => absurd (by decide) c9) (fun _ => ?_)
        refine lv_bipush (v := (-4)) hx hb dX3_set_29 (by decide) ?_
        exact mw_iret (v := (-4)) hE hr hlocks hP hS dX3_set_31 (⟨c9, g, hR, hs, Or.inr (Or.inl ⟨vp_in_nI hpp (by omega), Or.inr hq_7, rfl, rfl⟩)⟩)
    · skip
      refine lv_if_eq (tgt := 29) hx hb dX3_set_19 (by decide) (fun _ => ?_) (fun c9 => absurd (by decide) c9)
      refine lv_bipush (v := (-4)) hx hb dX3_set_29 (by decide) ?_
      exact mw_iret (v := (-4)) hE hr hlocks hP hS dX3_set_31 (⟨c9, g, hR, hs, Or.inr (Or.inl ⟨vp_in_nI hpp (by omega), Or.inl hq_4, rfl, rfl⟩)⟩)
  · skip
    refine lv_astoreN (lv' := [(4, .null), (0, .ref (h 0)), (1, .int x), (2, .int y), (3, .int u)]) hx hb dX3_set_5 hl (by decide) rfl (fun ls hl => ?_)
    refine lv_aloadN hx hb dX3_set_7 (lv_at hl 0 rfl) ?_
    refine lv_ifnonnullN hx hb dX3_set_9 ?_
    refine lv_bipush (v := (-2)) hx hb dX3_set_12 (by decide) ?_
    exact mw_iret (v := (-2)) hE hr hlocks hP hS dX3_set_14 (⟨c9, g, hR, hs, Or.inl ⟨hq_2, rfl, rfl⟩⟩)

set_option maxRecDepth 20000 in
theorem mX3_standIn_f75 : Cond.fieldLink RX3 75 "CodePages$Page" "substitute" "I" ∈ wsX3_standIn := by decide +kernel
set_option maxRecDepth 20000 in
theorem iX3_standIn_X1 : ∀ w ∈ u_ws RX1 TX1 2, w ∈ wsX3_standIn := by decide +kernel
set_option maxHeartbeats 4000000 in
set_option maxRecDepth 100000 in
theorem tX3_standIn (l : Launch) (D : va_G) (k : Nat → ClassId) (M : mw) (sz : Nat) (h : Nat → Nat) (b : Nat → Nat → Nat) (T : Nat → Nat × Nat) (n : Nat → Nat) (c9 : Nat → Nat → Nat → Int32) (g : Nat → Nat → Int32) (L : Nat → Nat) (X : Nat → Nat → Nat) (x y : Int32) (hR : cp_R k h b n c9 M) (hT : cp_T h b T n) (hn9 : mo_B n) (hs : sm n c9 g L X) : Met l yX3_standIn wsX3_standIn ({ frames := 1, cells := 0, slots := 0, locals := 21 }) (va_Pc [.ref (h 0), .int x, .int y] (mw_U D vwCl (TY k) M sz)) (va_Qi (fun r M1 => ∃ c1 g1, cp_R k h b n c1 M1 ∧ sm n c1 g1 L X ∧ R_standIn n g x y r g1) (mw_B D vwCl M sz) (mw_A M sz)) 0 0 (mw_A M sz) := by
  refine mw_met (cc := cX3_standIn) (maxL := 5) (ret := (some .int)) (lv := [(0, .ref (h 0)), (1, .int x), (2, .int y)]) (by decide) rfl (Nat.le_of_ble_eq_true rfl) rfl ?_
  intro p e s m below meth c ls hE hr hlocks hin hml hsz hP hS hl
  subst hsz
  have hx := hE.1
  have hb := hE.2.1
  have hA : ∀ q, s.heap.size ≤ q → mw_A M s.heap.size q := fun q h => Or.inr h
  obtain ⟨hb0, hb1, hb2, hb3⟩ := id hn9
  obtain ⟨⟨f0, f1, f2, f3, f4⟩, fP, fO, fX⟩ := id hR
  obtain ⟨sP, sO, sX, sG, sL⟩ := id hs
  refine lv_aload_n hx hb dX3_standIn_0 rfl (lv_at hl 0 rfl) ?_
  refine lv_iload_n hx hb dX3_standIn_1 rfl (lv_at hl 1 rfl) ?_
  refine mw_callq hP hS hA (va_runV (As := [.int x]) (rest := []) ⟨hx, hb, hml, hE.2.2.2.1, hE.2.2.1⟩ (tX3_pageAt l D k _ _ h (fun j => nI (n (j - 4))) (n 0) (b 1) x hb0 f0 f1) (cwV 1 hE.2.2.1 gX3_standIn_X3_pageAt rfl rfl rfl (by decide +kernel) ⟨(Nat.le_of_ble_eq_true rfl), (Nat.le_of_ble_eq_true rfl)⟩) (mw_preV hE hP (ci := 4) rfl rfl f0 [.int x]) rfl rfl hl.1 rfl (lv_room (Nat.le_of_ble_eq_true rfl)) dX3_standIn_2 ⟨(Nat.le_of_ble_eq_true rfl), (Nat.le_of_ble_eq_true rfl)⟩) (fun r_1 M1 H locs hw hP hS => ?_)
  obtain ⟨hM1, hw⟩ := hw
  rw [hM1] at hP
  rcases hw with ⟨pp, hpp, rfl, rfl⟩ | ⟨hq_2, rfl⟩
  · skip
    refine lv_astore_n (lv' := [(3, .ref (b 1 pp)), (0, .ref (h 0)), (1, .int (nI pp)), (2, .int y)]) hx hb dX3_standIn_5 rfl hl (by decide) rfl (fun ls hl => ?_)
    refine lv_aload_n hx hb dX3_standIn_6 rfl (lv_at hl 0 rfl) ?_
    refine lv_ifnonnull (tgt := 13) hx hb dX3_standIn_7 (by decide) ?_
    refine lv_iload_n hx hb dX3_standIn_13 rfl (lv_at hl 3 rfl) ?_
    refine mw_calli hP hS hA (va_runS (As := [.int y]) (rest := []) ⟨hx, hb, hml, hE.2.2.2.1, hE.2.2.1⟩ (tX3_isCode l D k _ _ y) (va_cwS 1 hE.2.2.1 gX3_standIn_X3_isCode rfl rfl rfl (by decide +kernel) ⟨(Nat.le_of_ble_eq_true rfl), (Nat.le_of_ble_eq_true rfl)⟩) (mw_preS hE hP [.int y]) rfl rfl hl.1 rfl (lv_room (Nat.le_of_ble_eq_true rfl)) dX3_standIn_14 ⟨(Nat.le_of_ble_eq_true rfl), (Nat.le_of_ble_eq_true rfl)⟩) (fun r_3 M1 H locs hw hP hS => ?_)
    obtain ⟨hM1, hw⟩ := hw
    rw [hM1] at hP
    rcases hw with ⟨hq_4, rfl⟩ | ⟨hq_4, rfl⟩
    · obtain ⟨j, hj, rfl⟩ := vp_in_of hq_4 (by omega)
      skip
      refine lv_if_ne (tgt := 23) hx hb dX3_standIn_17 (by decide) (fun _ => ?_) (fun c9 => absurd c9 (by decide))
      refine lv_aload_n hx hb dX3_standIn_23 rfl (lv_at hl 0 rfl) ?_
      refine mw_get (v := .int (c9 2 pp 0)) (ci := 2) (T := TX1) (N := 2) (C := RX1) hE iX3_standIn_X1 hP ((fP pp hpp).1) rfl 1 (by decide) (hE.2.2.1 _ mX3_standIn_f75) rfl rfl dX3_standIn_24 ?_
      refine lv_istore (lv' := [(4, .int (c9 2 pp 0)), (3, .ref (b 1 pp)), (0, .ref (h 0)), (1, .int (nI pp)), (2, .int (nI j))]) hx hb dX3_standIn_27 hl (by decide) rfl (fun ls hl => ?_)
      refine lv_aload_n hx hb dX3_standIn_29 rfl (lv_at hl 1 rfl) ?_
      refine lv_iload_n hx hb dX3_standIn_30 rfl (lv_at hl 4 rfl) ?_
      refine mw_put (ty := .int) (v := .int (nI j)) (ci := 2) (T := TX1) (N := 2) (C := RX1) hE iX3_standIn_X1 tyX1 tyX1_ok nmX1 hP hS ((fP pp hpp).1) rfl 1 (by decide) (hE.2.2.1 _ mX3_standIn_f75) rfl rfl (by decide +kernel) rfl rfl (Nat.le_of_ble_eq_true rfl) dX3_standIn_31 (fun H locs hP hS => ?_)
      obtain ⟨M_6, eM_6⟩ : ∃ Z, Z = mw_up M (b 1 pp) (.inr (2, [.ref (b 2 pp), .int (nI j)])) := ⟨_, rfl⟩
      have hP : mw_Q (mw_A M s.heap.size) D vwCl M_6 H := by rw [eM_6]; exact hP
      have f_7 : M_6 (b 1 pp) = some (.inr (2, [.ref (b 2 pp), .int (nI j)])) := by rw [eM_6]; exact mw_up_s
      refine lv_iload hx hb dX3_standIn_34 (lv_at hl 0 rfl) ?_
      exact mw_iret (v := c9 2 pp 0) hE hr hlocks hP hS dX3_standIn_36 (⟨_, _, cp_set2 hR hT hpp f_7 (fun x hx => by rw [eM_6, mw_up_n hx]), sm_stand hs hj, Or.inr (Or.inr ⟨pp, j, hpp, hj, rfl, rfl, (sP pp hpp).1, rfl⟩)⟩)
    · skip
      refine lv_if_ne (tgt := 23) hx hb dX3_standIn_17 (by decide) (fun c9 => absurd (by decide) c9) (fun _ => ?_)
      refine lv_bipush (v := (-4)) hx hb dX3_standIn_20 (by decide) ?_
      exact mw_iret (v := (-4)) hE hr hlocks hP hS dX3_standIn_22 (⟨c9, g, hR, hs, Or.inr (Or.inl ⟨vp_in_nI hpp (by omega), hq_4, rfl, rfl⟩)⟩)
  · skip
    refine lv_astore_nN (lv' := [(3, .null), (0, .ref (h 0)), (1, .int x), (2, .int y)]) hx hb dX3_standIn_5 rfl hl (by decide) rfl (fun ls hl => ?_)
    refine lv_aload_nN hx hb dX3_standIn_6 rfl (lv_at hl 0 rfl) ?_
    refine lv_ifnonnullN hx hb dX3_standIn_7 ?_
    refine lv_bipush (v := (-2)) hx hb dX3_standIn_10 (by decide) ?_
    exact mw_iret (v := (-2)) hE hr hlocks hP hS dX3_standIn_12 (⟨c9, g, hR, hs, Or.inl ⟨hq_2, rfl, rfl⟩⟩)

set_option maxRecDepth 20000 in
theorem mX3_at_f118 : Cond.fieldLink RX3 118 "CodePages$Text" "size" "I" ∈ wsX3_at := by decide +kernel
set_option maxRecDepth 20000 in
theorem mX3_at_f121 : Cond.fieldLink RX3 121 "CodePages$Text" "codes" "[I" ∈ wsX3_at := by decide +kernel
set_option maxRecDepth 20000 in
theorem iX3_at_X2 : ∀ w ∈ u_ws RX2 TX2 2, w ∈ wsX3_at := by decide +kernel
set_option maxHeartbeats 4000000 in
set_option maxRecDepth 100000 in
theorem tX3_at (l : Launch) (D : va_G) (k : Nat → ClassId) (M : mw) (sz : Nat) (h : Nat → Nat) (b : Nat → Nat → Nat) (T : Nat → Nat × Nat) (n : Nat → Nat) (c9 : Nat → Nat → Nat → Int32) (g : Nat → Nat → Int32) (L : Nat → Nat) (X : Nat → Nat → Nat) (x y : Int32) (hR : cp_R k h b n c9 M) (hT : cp_T h b T n) (hn9 : mo_B n) (hs : sm n c9 g L X) : Met l yX3_at wsX3_at ({ frames := 1, cells := 0, slots := 0, locals := 21 }) (va_Pc [.ref (h 0), .int x, .int y] (mw_U D vwCl (TY k) M sz)) (va_Qi (fun r M1 => M1 = M ∧ R_at n g L x y r) (mw_B D vwCl M sz) (mw_A M sz)) 0 0 (mw_A M sz) := by
  refine mw_met (cc := cX3_at) (maxL := 4) (ret := (some .int)) (lv := [(0, .ref (h 0)), (1, .int x), (2, .int y)]) (by decide) rfl (Nat.le_of_ble_eq_true rfl) rfl ?_
  intro p e s m below meth c ls hE hr hlocks hin hml hsz hP hS hl
  subst hsz
  have hx := hE.1
  have hb := hE.2.1
  have hA : ∀ q, s.heap.size ≤ q → mw_A M s.heap.size q := fun q h => Or.inr h
  obtain ⟨hb0, hb1, hb2, hb3⟩ := id hn9
  obtain ⟨⟨f0, f1, f2, f3, f4⟩, fP, fO, fX⟩ := id hR
  obtain ⟨sP, sO, sX, sG, sL⟩ := id hs
  refine lv_aload_n hx hb dX3_at_0 rfl (lv_at hl 0 rfl) ?_
  refine lv_iload_n hx hb dX3_at_1 rfl (lv_at hl 1 rfl) ?_
  refine mw_callq hP hS hA (va_runV (As := [.int x]) (rest := []) ⟨hx, hb, hml, hE.2.2.2.1, hE.2.2.1⟩ (tX3_textAt l D k _ _ h (fun j => nI (n (j - 4))) (n 2) (b 6) x hb2 f0 f3) (cwV 1 hE.2.2.1 gX3_at_X3_textAt rfl rfl rfl (by decide +kernel) ⟨(Nat.le_of_ble_eq_true rfl), (Nat.le_of_ble_eq_true rfl)⟩) (mw_preV hE hP (ci := 4) rfl rfl f0 [.int x]) rfl rfl hl.1 rfl (lv_room (Nat.le_of_ble_eq_true rfl)) dX3_at_2 ⟨(Nat.le_of_ble_eq_true rfl), (Nat.le_of_ble_eq_true rfl)⟩) (fun r_1 M1 H locs hw hP hS => ?_)
  obtain ⟨hM1, hw⟩ := hw
  rw [hM1] at hP
  rcases hw with ⟨t, ht, rfl, rfl⟩ | ⟨hq_2, rfl⟩
  · skip
    refine lv_astore_n (lv' := [(3, .ref (b 6 t)), (0, .ref (h 0)), (1, .int (nI t)), (2, .int y)]) hx hb dX3_at_5 rfl hl (by decide) rfl (fun ls hl => ?_)
    refine lv_aload_n hx hb dX3_at_6 rfl (lv_at hl 0 rfl) ?_
    refine lv_ifnull hx hb dX3_at_7 ?_
    obtain ⟨a1, a2⟩ := sX t ht
    obtain ⟨d1, d2, d3⟩ := sG t ht
    refine lv_iload_n hx hb dX3_at_10 rfl (lv_at hl 3 rfl) ?_
    refine lv_if_lt (tgt := 31) hx hb dX3_at_11 (by decide) (fun c_11 => ?_) (fun c_11 => ?_)
    · refine lv_iconst (v := (-1)) hx hb dX3_at_31 (by decide) ?_
      exact mw_iret (v := (-1)) hE hr hlocks hP hS dX3_at_32 (⟨rfl, Or.inr ⟨t, ht, rfl, Or.inl ⟨fun q => ((rw_in (n := L t) (by omega)).mp q).1 c_11, rfl⟩⟩⟩)
    · refine lv_iload_n hx hb dX3_at_14 rfl (lv_at hl 3 rfl) ?_
      refine lv_aload_n hx hb dX3_at_15 rfl (lv_at hl 0 rfl) ?_
      refine mw_get (v := .int (c9 8 t 0)) (ci := 3) (T := TX2) (N := 2) (C := RX2) hE iX3_at_X2 hP ((fX t ht).1) rfl 1 (by decide) (hE.2.2.1 _ mX3_at_f118) rfl rfl dX3_at_16 ?_
      refine rw_i (v := nI (L t)) a1 ?_
      refine lv_icmp_ge (tgt := 31) hx hb dX3_at_19 (by decide) (fun c_19 => ?_) (fun c_19 => ?_)
      · refine lv_iconst (v := (-1)) hx hb dX3_at_31 (by decide) ?_
        exact mw_iret (v := (-1)) hE hr hlocks hP hS dX3_at_32 (⟨rfl, Or.inr ⟨t, ht, rfl, Or.inl ⟨fun q => ((rw_in (n := L t) (by omega)).mp q).2 c_19, rfl⟩⟩⟩)
      · obtain ⟨j, hj, rfl⟩ := vp_in_of ((rw_in (n := L t) (by omega)).mpr ⟨c_11, c_19⟩) (by omega)
        refine lv_aload_n hx hb dX3_at_22 rfl (lv_at hl 0 rfl) ?_
        refine mw_get (v := .ref (b 7 t)) (ci := 3) (T := TX2) (N := 2) (C := RX2) hE iX3_at_X2 hP ((fX t ht).1) rfl 0 (by decide) (hE.2.2.1 _ mX3_at_f121) rfl rfl dX3_at_23 ?_
        refine lv_iload_n hx hb dX3_at_26 rfl (lv_at hl 3 rfl) ?_
        refine rw_iald hE hP 0 ((fX t ht).2) rfl (by decide) dX3_at_27 (by omega) ?_
        refine lv_goto (tgt := 32) hx hb dX3_at_28 (by decide) ?_
        exact mw_iret (v := (c9 7 t) j) hE hr hlocks hP hS dX3_at_32 (⟨rfl, Or.inr ⟨t, ht, rfl, Or.inr ⟨j, hj, rfl, (a2 j hj).trans (d3 j hj).2.symm⟩⟩⟩)
  · skip
    refine lv_astore_nN (lv' := [(3, .null), (0, .ref (h 0)), (1, .int x), (2, .int y)]) hx hb dX3_at_5 rfl hl (by decide) rfl (fun ls hl => ?_)
    refine lv_aload_nN hx hb dX3_at_6 rfl (lv_at hl 0 rfl) ?_
    refine lv_ifnullN (tgt := 31) hx hb dX3_at_7 (by decide) ?_
    refine lv_iconst (v := (-1)) hx hb dX3_at_31 (by decide) ?_
    exact mw_iret (v := (-1)) hE hr hlocks hP hS dX3_at_32 (⟨rfl, Or.inl ⟨hq_2, rfl⟩⟩)

set_option maxRecDepth 20000 in
theorem mX3_sign_f118 : Cond.fieldLink RX3 118 "CodePages$Text" "size" "I" ∈ wsX3_sign := by decide +kernel
set_option maxRecDepth 20000 in
theorem mX3_sign_f121 : Cond.fieldLink RX3 121 "CodePages$Text" "codes" "[I" ∈ wsX3_sign := by decide +kernel
set_option maxRecDepth 20000 in
theorem iX3_sign_X2 : ∀ w ∈ u_ws RX2 TX2 2, w ∈ wsX3_sign := by decide +kernel
set_option maxHeartbeats 4000000 in
set_option maxRecDepth 100000 in
theorem tX3_sign (l : Launch) (D : va_G) (k : Nat → ClassId) (M : mw) (sz : Nat) (h : Nat → Nat) (b : Nat → Nat → Nat) (T : Nat → Nat × Nat) (n : Nat → Nat) (c9 : Nat → Nat → Nat → Int32) (g : Nat → Nat → Int32) (L : Nat → Nat) (X : Nat → Nat → Nat) (x y : Int32) (hR : cp_R k h b n c9 M) (hT : cp_T h b T n) (hn9 : mo_B n) (hs : sm n c9 g L X) : Met l yX3_sign wsX3_sign ({ frames := 1, cells := 0, slots := 0, locals := 21 }) (va_Pc [.ref (h 0), .int x, .int y] (mw_U D vwCl (TY k) M sz)) (va_Qi (fun r M1 => ∃ c1 g1 L1 X1, cp_R k h b n c1 M1 ∧ sm n c1 g1 L1 X1 ∧ R_sign n g L x y r g1) (mw_B D vwCl M sz) (mw_A M sz)) 0 0 (mw_A M sz) := by
  refine mw_met (cc := cX3_sign) (maxL := 4) (ret := (some .int)) (lv := [(0, .ref (h 0)), (1, .int x), (2, .int y)]) (by decide) rfl (Nat.le_of_ble_eq_true rfl) rfl ?_
  intro p e s m below meth c ls hE hr hlocks hin hml hsz hP hS hl
  subst hsz
  have hx := hE.1
  have hb := hE.2.1
  have hA : ∀ q, s.heap.size ≤ q → mw_A M s.heap.size q := fun q h => Or.inr h
  obtain ⟨hb0, hb1, hb2, hb3⟩ := id hn9
  obtain ⟨⟨f0, f1, f2, f3, f4⟩, fP, fO, fX⟩ := id hR
  obtain ⟨sP, sO, sX, sG, sL⟩ := id hs
  refine lv_aload_n hx hb dX3_sign_0 rfl (lv_at hl 0 rfl) ?_
  refine lv_iload_n hx hb dX3_sign_1 rfl (lv_at hl 1 rfl) ?_
  refine mw_callq hP hS hA (va_runV (As := [.int x]) (rest := []) ⟨hx, hb, hml, hE.2.2.2.1, hE.2.2.1⟩ (tX3_textAt l D k _ _ h (fun j => nI (n (j - 4))) (n 2) (b 6) x hb2 f0 f3) (cwV 1 hE.2.2.1 gX3_sign_X3_textAt rfl rfl rfl (by decide +kernel) ⟨(Nat.le_of_ble_eq_true rfl), (Nat.le_of_ble_eq_true rfl)⟩) (mw_preV hE hP (ci := 4) rfl rfl f0 [.int x]) rfl rfl hl.1 rfl (lv_room (Nat.le_of_ble_eq_true rfl)) dX3_sign_2 ⟨(Nat.le_of_ble_eq_true rfl), (Nat.le_of_ble_eq_true rfl)⟩) (fun r_1 M1 H locs hw hP hS => ?_)
  obtain ⟨hM1, hw⟩ := hw
  rw [hM1] at hP
  rcases hw with ⟨t, ht, rfl, rfl⟩ | ⟨hq_2, rfl⟩
  · skip
    refine lv_astore_n (lv' := [(3, .ref (b 6 t)), (0, .ref (h 0)), (1, .int (nI t)), (2, .int y)]) hx hb dX3_sign_5 rfl hl (by decide) rfl (fun ls hl => ?_)
    refine lv_aload_n hx hb dX3_sign_6 rfl (lv_at hl 0 rfl) ?_
    refine lv_ifnonnull (tgt := 13) hx hb dX3_sign_7 (by decide) ?_
    refine lv_iload_n hx hb dX3_sign_13 rfl (lv_at hl 3 rfl) ?_
    refine mw_calli hP hS hA (va_runS (As := [.int y]) (rest := []) ⟨hx, hb, hml, hE.2.2.2.1, hE.2.2.1⟩ (tX3_isCode l D k _ _ y) (va_cwS 1 hE.2.2.1 gX3_sign_X3_isCode rfl rfl rfl (by decide +kernel) ⟨(Nat.le_of_ble_eq_true rfl), (Nat.le_of_ble_eq_true rfl)⟩) (mw_preS hE hP [.int y]) rfl rfl hl.1 rfl (lv_room (Nat.le_of_ble_eq_true rfl)) dX3_sign_14 ⟨(Nat.le_of_ble_eq_true rfl), (Nat.le_of_ble_eq_true rfl)⟩) (fun r_3 M1 H locs hw hP hS => ?_)
    obtain ⟨hM1, hw⟩ := hw
    rw [hM1] at hP
    rcases hw with ⟨hq_4, rfl⟩ | ⟨hq_4, rfl⟩
    · obtain ⟨j, hj, rfl⟩ := vp_in_of hq_4 (by omega)
      skip
      refine lv_if_ne (tgt := 23) hx hb dX3_sign_17 (by decide) (fun _ => ?_) (fun c9 => absurd c9 (by decide))
      obtain ⟨a1, a2⟩ := sX t ht
      obtain ⟨d1, d2, d3⟩ := sG t ht
      refine lv_aload_n hx hb dX3_sign_23 rfl (lv_at hl 0 rfl) ?_
      refine mw_get (v := .int (c9 8 t 0)) (ci := 3) (T := TX2) (N := 2) (C := RX2) hE iX3_sign_X2 hP ((fX t ht).1) rfl 1 (by decide) (hE.2.2.1 _ mX3_sign_f118) rfl rfl dX3_sign_24 ?_
      refine rw_i (v := nI (L t)) a1 ?_
      refine lv_bipush (v := nI 40) hx hb dX3_sign_27 (by decide) ?_
      refine lv_icmp_lt (tgt := 34) hx hb dX3_sign_29 (by decide) (fun c_29 => ?_) (fun c_29 => ?_)
      · have k_29 : (L t) < 40 := nn_lt (a := (L t)) (b := 40) c_29 (by omega) (by omega)
        refine lv_aload_n hx hb dX3_sign_34 rfl (lv_at hl 0 rfl) ?_
        refine mw_get (v := .ref (b 7 t)) (ci := 3) (T := TX2) (N := 2) (C := RX2) hE iX3_sign_X2 hP ((fX t ht).1) rfl 0 (by decide) (hE.2.2.1 _ mX3_sign_f121) rfl rfl dX3_sign_35 ?_
        refine lv_aload_n hx hb dX3_sign_38 rfl (lv_at hl 0 rfl) ?_
        refine mw_get (v := .int (c9 8 t 0)) (ci := 3) (T := TX2) (N := 2) (C := RX2) hE iX3_sign_X2 hP ((fX t ht).1) rfl 1 (by decide) (hE.2.2.1 _ mX3_sign_f118) rfl rfl dX3_sign_39 ?_
        refine rw_i (v := nI (L t)) a1 ?_
        refine lv_iload_n hx hb dX3_sign_42 rfl (lv_at hl 3 rfl) ?_
        refine rw_iast hE hP hS 0 ((fX t ht).2) rfl (by decide) dX3_sign_43 (by omega) (fun H locs hP hS => ?_)
        obtain ⟨M_7, eM_7⟩ : ∃ Z, Z = mw_up M (b 7 t) (.inl ((k 0), 40, .inl (upd (c9 7 t) (L t) (nI j)))) := ⟨_, rfl⟩
        have hP : mw_Q (mw_A M s.heap.size) D vwCl M_7 H := by rw [eM_7]; exact hP
        have f_8 : M_7 (b 7 t) = some (.inl ((k 0), 40, .inl (upd (c9 7 t) (L t) (nI j)))) := by rw [eM_7]; exact mw_up_s
        have f_9 : M_7 (b 6 t) = some (.inr (3, [.ref (b 7 t), .int (c9 8 t 0)])) := by rw [eM_7, mw_up_n (fun h => by have h1 := (fX t ht).1; rw [h, (fX t ht).2] at h1; cases h1)]; exact (fX t ht).1
        refine lv_aload_n hx hb dX3_sign_44 rfl (lv_at hl 0 rfl) ?_
        refine lv_dup hx hb dX3_sign_45 rfl ?_
        refine mw_get (v := .int (c9 8 t 0)) (ci := 3) (T := TX2) (N := 2) (C := RX2) hE iX3_sign_X2 hP f_9 rfl 1 (by decide) (hE.2.2.1 _ mX3_sign_f118) rfl rfl dX3_sign_46 ?_
        refine rw_i (v := nI (L t)) a1 ?_
        refine lv_iconst (v := 1) hx hb dX3_sign_49 (by decide) ?_
        refine lv_iadd hx hb dX3_sign_50 ?_
        refine rw_i (v := nI ((L t) + 1)) (nI_1 _) ?_
        refine mw_put (ty := .int) (v := .int (nI ((L t) + 1))) (ci := 3) (T := TX2) (N := 2) (C := RX2) hE iX3_sign_X2 tyX2 tyX2_ok nmX2 hP hS f_9 rfl 1 (by decide) (hE.2.2.1 _ mX3_sign_f118) rfl rfl (by decide +kernel) rfl rfl (Nat.le_of_ble_eq_true rfl) dX3_sign_51 (fun H locs hP hS => ?_)
        obtain ⟨M_10, eM_10⟩ : ∃ Z, Z = mw_up M_7 (b 6 t) (.inr (3, [.ref (b 7 t), .int (nI ((L t) + 1))])) := ⟨_, rfl⟩
        have hP : mw_Q (mw_A M s.heap.size) D vwCl M_10 H := by rw [eM_10]; exact hP
        have f_11 : M_10 (b 7 t) = some (.inl ((k 0), 40, .inl (upd (c9 7 t) (L t) (nI j)))) := by rw [eM_10, mw_up_n (fun h => by have h1 := f_8; rw [h, f_9] at h1; cases h1)]; exact f_8
        have f_12 : M_10 (b 6 t) = some (.inr (3, [.ref (b 7 t), .int (nI ((L t) + 1))])) := by rw [eM_10]; exact mw_up_s
        refine lv_aload_n hx hb dX3_sign_54 rfl (lv_at hl 0 rfl) ?_
        refine mw_get (v := .int (nI ((L t) + 1))) (ci := 3) (T := TX2) (N := 2) (C := RX2) hE iX3_sign_X2 hP f_12 rfl 1 (by decide) (hE.2.2.1 _ mX3_sign_f118) rfl rfl dX3_sign_55 ?_
        exact mw_iret (v := nI ((L t) + 1)) hE hr hlocks hP hS dX3_sign_58 (⟨_, _, _, _, cp_sgn hR hT ht f_11 f_12 (fun x h1 h2 => by rw [eM_10, mw_up_n h2, eM_7, mw_up_n h1]), sm_sgn hs ht hj (by omega), Or.inr (Or.inr ⟨t, j, ht, hj, rfl, rfl, Or.inr ⟨by omega, rfl, rfl⟩⟩)⟩)
      · have k_29 : 40 ≤ (L t) := nn_nlt (a := (L t)) (b := 40) c_29 (by omega) (by omega)
        refine lv_iconst (v := (-1)) hx hb dX3_sign_32 (by decide) ?_
        exact mw_iret (v := (-1)) hE hr hlocks hP hS dX3_sign_33 (⟨c9, g, L, X, hR, hs, Or.inr (Or.inr ⟨t, j, ht, hj, rfl, rfl, Or.inl ⟨by omega, rfl, rfl⟩⟩)⟩)
    · skip
      refine lv_if_ne (tgt := 23) hx hb dX3_sign_17 (by decide) (fun c9 => absurd (by decide) c9) (fun _ => ?_)
      refine lv_bipush (v := (-4)) hx hb dX3_sign_20 (by decide) ?_
      exact mw_iret (v := (-4)) hE hr hlocks hP hS dX3_sign_22 (⟨c9, g, L, X, hR, hs, Or.inr (Or.inl ⟨vp_in_nI ht (by omega), hq_4, rfl, rfl⟩)⟩)
  · skip
    refine lv_astore_nN (lv' := [(3, .null), (0, .ref (h 0)), (1, .int x), (2, .int y)]) hx hb dX3_sign_5 rfl hl (by decide) rfl (fun ls hl => ?_)
    refine lv_aload_nN hx hb dX3_sign_6 rfl (lv_at hl 0 rfl) ?_
    refine lv_ifnonnullN hx hb dX3_sign_7 ?_
    refine lv_bipush (v := (-2)) hx hb dX3_sign_10 (by decide) ?_
    exact mw_iret (v := (-2)) hE hr hlocks hP hS dX3_sign_12 (⟨c9, g, L, X, hR, hs, Or.inl ⟨hq_2, rfl, rfl⟩⟩)

set_option maxRecDepth 20000 in
theorem mX3_rank_f128 : Cond.fieldLink RX3 128 "CodePages$Order" "ranks" "[I" ∈ wsX3_rank := by decide +kernel
set_option maxRecDepth 20000 in
theorem iX3_rank_X0 : ∀ w ∈ u_ws RX0 TX0 4, w ∈ wsX3_rank := by decide +kernel
set_option maxHeartbeats 4000000 in
set_option maxRecDepth 100000 in
theorem tX3_rank (l : Launch) (D : va_G) (k : Nat → ClassId) (M : mw) (sz : Nat) (h : Nat → Nat) (b : Nat → Nat → Nat) (T : Nat → Nat × Nat) (n : Nat → Nat) (c9 : Nat → Nat → Nat → Int32) (g : Nat → Nat → Int32) (L : Nat → Nat) (X : Nat → Nat → Nat) (x y : Int32) (hR : cp_R k h b n c9 M) (hT : cp_T h b T n) (hn9 : mo_B n) (hs : sm n c9 g L X) : Met l yX3_rank wsX3_rank ({ frames := 1, cells := 0, slots := 0, locals := 21 }) (va_Pc [.ref (h 0), .int x, .int y] (mw_U D vwCl (TY k) M sz)) (va_Qi (fun r M1 => M1 = M ∧ R_rank n g x y r) (mw_B D vwCl M sz) (mw_A M sz)) 0 0 (mw_A M sz) := by
  refine mw_met (cc := cX3_rank) (maxL := 4) (ret := (some .int)) (lv := [(0, .ref (h 0)), (1, .int x), (2, .int y)]) (by decide) rfl (Nat.le_of_ble_eq_true rfl) rfl ?_
  intro p e s m below meth c ls hE hr hlocks hin hml hsz hP hS hl
  subst hsz
  have hx := hE.1
  have hb := hE.2.1
  have hA : ∀ q, s.heap.size ≤ q → mw_A M s.heap.size q := fun q h => Or.inr h
  obtain ⟨hb0, hb1, hb2, hb3⟩ := id hn9
  obtain ⟨⟨f0, f1, f2, f3, f4⟩, fP, fO, fX⟩ := id hR
  obtain ⟨sP, sO, sX, sG, sL⟩ := id hs
  refine lv_aload_n hx hb dX3_rank_0 rfl (lv_at hl 0 rfl) ?_
  refine lv_iload_n hx hb dX3_rank_1 rfl (lv_at hl 1 rfl) ?_
  refine mw_callq hP hS hA (va_runV (As := [.int x]) (rest := []) ⟨hx, hb, hml, hE.2.2.2.1, hE.2.2.1⟩ (tX3_orderAt l D k _ _ h (fun j => nI (n (j - 4))) (n 1) (b 3) x hb1 f0 f2) (cwV 1 hE.2.2.1 gX3_rank_X3_orderAt rfl rfl rfl (by decide +kernel) ⟨(Nat.le_of_ble_eq_true rfl), (Nat.le_of_ble_eq_true rfl)⟩) (mw_preV hE hP (ci := 4) rfl rfl f0 [.int x]) rfl rfl hl.1 rfl (lv_room (Nat.le_of_ble_eq_true rfl)) dX3_rank_2 ⟨(Nat.le_of_ble_eq_true rfl), (Nat.le_of_ble_eq_true rfl)⟩) (fun r_1 M1 H locs hw hP hS => ?_)
  obtain ⟨hM1, hw⟩ := hw
  rw [hM1] at hP
  rcases hw with ⟨oo, hoo, rfl, rfl⟩ | ⟨hq_2, rfl⟩
  · skip
    refine lv_astore_n (lv' := [(3, .ref (b 3 oo)), (0, .ref (h 0)), (1, .int (nI oo)), (2, .int y)]) hx hb dX3_rank_5 rfl hl (by decide) rfl (fun ls hl => ?_)
    refine lv_aload_n hx hb dX3_rank_6 rfl (lv_at hl 0 rfl) ?_
    refine lv_ifnonnull (tgt := 13) hx hb dX3_rank_7 (by decide) ?_
    refine lv_iload_n hx hb dX3_rank_13 rfl (lv_at hl 3 rfl) ?_
    refine mw_calli hP hS hA (va_runS (As := [.int y]) (rest := []) ⟨hx, hb, hml, hE.2.2.2.1, hE.2.2.1⟩ (tX3_isCode l D k _ _ y) (va_cwS 1 hE.2.2.1 gX3_rank_X3_isCode rfl rfl rfl (by decide +kernel) ⟨(Nat.le_of_ble_eq_true rfl), (Nat.le_of_ble_eq_true rfl)⟩) (mw_preS hE hP [.int y]) rfl rfl hl.1 rfl (lv_room (Nat.le_of_ble_eq_true rfl)) dX3_rank_14 ⟨(Nat.le_of_ble_eq_true rfl), (Nat.le_of_ble_eq_true rfl)⟩) (fun r_3 M1 H locs hw hP hS => ?_)
    obtain ⟨hM1, hw⟩ := hw
    rw [hM1] at hP
    rcases hw with ⟨hq_4, rfl⟩ | ⟨hq_4, rfl⟩
    · obtain ⟨j, hj, rfl⟩ := vp_in_of hq_4 (by omega)
      skip
      refine lv_if_eq (tgt := 29) hx hb dX3_rank_17 (by decide) (fun c9 => absurd c9 (by decide)) (fun _ => ?_)
      refine lv_aload_n hx hb dX3_rank_20 rfl (lv_at hl 0 rfl) ?_
      refine mw_get (v := .ref (b 4 oo)) (ci := 1) (T := TX0) (N := 4) (C := RX0) hE iX3_rank_X0 hP ((fO oo hoo).1) rfl 1 (by decide) (hE.2.2.1 _ mX3_rank_f128) rfl rfl dX3_rank_21 ?_
      refine lv_iload_n hx hb dX3_rank_24 rfl (lv_at hl 3 rfl) ?_
      refine rw_iald hE hP 0 ((fO oo hoo).2.1) rfl (by decide) dX3_rank_25 (by omega) ?_
      refine lv_goto (tgt := 31) hx hb dX3_rank_26 (by decide) ?_
      exact mw_iret (v := (c9 3 oo) j) hE hr hlocks hP hS dX3_rank_31 (⟨rfl, Or.inr (Or.inr ⟨oo, j, hoo, hj, rfl, rfl, (sO oo hoo).2.1 j hj⟩)⟩)
    · skip
      refine lv_if_eq (tgt := 29) hx hb dX3_rank_17 (by decide) (fun _ => ?_) (fun c9 => absurd (by decide) c9)
      refine lv_bipush (v := (-4)) hx hb dX3_rank_29 (by decide) ?_
      exact mw_iret (v := (-4)) hE hr hlocks hP hS dX3_rank_31 (⟨rfl, Or.inr (Or.inl ⟨vp_in_nI hoo (by omega), hq_4, rfl⟩)⟩)
  · skip
    refine lv_astore_nN (lv' := [(3, .null), (0, .ref (h 0)), (1, .int x), (2, .int y)]) hx hb dX3_rank_5 rfl hl (by decide) rfl (fun ls hl => ?_)
    refine lv_aload_nN hx hb dX3_rank_6 rfl (lv_at hl 0 rfl) ?_
    refine lv_ifnonnullN hx hb dX3_rank_7 ?_
    refine lv_bipush (v := (-2)) hx hb dX3_rank_10 (by decide) ?_
    exact mw_iret (v := (-2)) hE hr hlocks hP hS dX3_rank_12 (⟨rfl, Or.inl ⟨hq_2, rfl⟩⟩)

set_option maxHeartbeats 4000000 in
set_option maxRecDepth 100000 in
theorem tX3_high (l : Launch) (D : va_G) (k : Nat → ClassId) (M : mw) (sz : Nat) (h : Nat → Nat) (b : Nat → Nat → Nat) (T : Nat → Nat × Nat) (n : Nat → Nat) (c9 : Nat → Nat → Nat → Int32) (g : Nat → Nat → Int32) (L : Nat → Nat) (X : Nat → Nat → Nat) (x : Int32) (hR : cp_R k h b n c9 M) (hT : cp_T h b T n) (hn9 : mo_B n) (hs : sm n c9 g L X) : Met l yX3_high wsX3_high ({ frames := 1, cells := 0, slots := 0, locals := 22 }) (va_Pc [.ref (h 0), .int x] (mw_U D vwCl (TY k) M sz)) (va_Qi (fun r M1 => M1 = M ∧ R_high n g x r) (mw_B D vwCl M sz) (mw_A M sz)) 0 0 (mw_A M sz) := by
  refine mw_met (cc := cX3_high) (maxL := 3) (ret := (some .int)) (lv := [(0, .ref (h 0)), (1, .int x)]) (by decide) rfl (Nat.le_of_ble_eq_true rfl) rfl ?_
  intro p e s m below meth c ls hE hr hlocks hin hml hsz hP hS hl
  subst hsz
  have hx := hE.1
  have hb := hE.2.1
  have hA : ∀ q, s.heap.size ≤ q → mw_A M s.heap.size q := fun q h => Or.inr h
  obtain ⟨hb0, hb1, hb2, hb3⟩ := id hn9
  obtain ⟨⟨f0, f1, f2, f3, f4⟩, fP, fO, fX⟩ := id hR
  obtain ⟨sP, sO, sX, sG, sL⟩ := id hs
  refine lv_aload_n hx hb dX3_high_0 rfl (lv_at hl 0 rfl) ?_
  refine lv_iload_n hx hb dX3_high_1 rfl (lv_at hl 1 rfl) ?_
  refine mw_callq hP hS hA (va_runV (As := [.int x]) (rest := []) ⟨hx, hb, hml, hE.2.2.2.1, hE.2.2.1⟩ (tX3_orderAt l D k _ _ h (fun j => nI (n (j - 4))) (n 1) (b 3) x hb1 f0 f2) (cwV 1 hE.2.2.1 gX3_high_X3_orderAt rfl rfl rfl (by decide +kernel) ⟨(Nat.le_of_ble_eq_true rfl), (Nat.le_of_ble_eq_true rfl)⟩) (mw_preV hE hP (ci := 4) rfl rfl f0 [.int x]) rfl rfl hl.1 rfl (lv_room (Nat.le_of_ble_eq_true rfl)) dX3_high_2 ⟨(Nat.le_of_ble_eq_true rfl), (Nat.le_of_ble_eq_true rfl)⟩) (fun r_1 M1 H locs hw hP hS => ?_)
  obtain ⟨hM1, hw⟩ := hw
  rw [hM1] at hP
  rcases hw with ⟨oo, hoo, rfl, rfl⟩ | ⟨hq_2, rfl⟩
  · skip
    refine lv_astore_n (lv' := [(2, .ref (b 3 oo)), (0, .ref (h 0)), (1, .int (nI oo))]) hx hb dX3_high_5 rfl hl (by decide) rfl (fun ls hl => ?_)
    refine lv_aload_n hx hb dX3_high_6 rfl (lv_at hl 0 rfl) ?_
    refine lv_ifnonnull (tgt := 15) hx hb dX3_high_7 (by decide) ?_
    refine lv_aload_n hx hb dX3_high_15 rfl (lv_at hl 0 rfl) ?_
    refine mw_calli hP hS hA (va_runV (As := []) (rest := []) ⟨hx, hb, hml, hE.2.2.2.1, hE.2.2.1⟩ (tX0_lastCode l D k _ _ (b 3 oo) (b 4 oo) (b 5 oo) (c9 6 oo 0) (c9 5 oo 0) (c9 3 oo) (c9 4 oo) (fO oo hoo).1 (fO oo hoo).2.1 (fO oo hoo).2.2) (cwV 0 hE.2.2.1 gX3_high_X0_lastCode rfl rfl rfl (by decide +kernel) ⟨(Nat.le_of_ble_eq_true rfl), (Nat.le_of_ble_eq_true rfl)⟩) (mw_preV hE hP (ci := 1) rfl rfl ((fO oo hoo).1) []) rfl rfl hl.1 rfl (lv_room (Nat.le_of_ble_eq_true rfl)) dX3_high_16 ⟨(Nat.le_of_ble_eq_true rfl), (Nat.le_of_ble_eq_true rfl)⟩) (fun r_3 M1 H locs hw hP hS => ?_)
    obtain ⟨hM1, er_3⟩ := hw
    rw [hM1] at hP
    exact mw_iret (v := r_3) hE hr hlocks hP hS dX3_high_19 (⟨rfl, Or.inr ⟨oo, hoo, rfl, by rw [er_3, hgh_ext (fun i hi => (sO oo hoo).2.1 i (by omega))]⟩⟩)
  · skip
    refine lv_astore_nN (lv' := [(2, .null), (0, .ref (h 0)), (1, .int x)]) hx hb dX3_high_5 rfl hl (by decide) rfl (fun ls hl => ?_)
    refine lv_aload_nN hx hb dX3_high_6 rfl (lv_at hl 0 rfl) ?_
    refine lv_ifnonnullN hx hb dX3_high_7 ?_
    refine lv_bipush (v := (-2)) hx hb dX3_high_10 (by decide) ?_
    refine lv_goto (tgt := 19) hx hb dX3_high_12 (by decide) ?_
    exact mw_iret (v := (-2)) hE hr hlocks hP hS dX3_high_19 (⟨rfl, Or.inl ⟨hq_2, rfl⟩⟩)

set_option maxHeartbeats 4000000 in
set_option maxRecDepth 100000 in
theorem tX3_cls (l : Launch) (D : va_G) (k : Nat → ClassId) (M : mw) (sz : Nat) (h : Nat → Nat) (b : Nat → Nat → Nat) (T : Nat → Nat × Nat) (n : Nat → Nat) (c9 : Nat → Nat → Nat → Int32) (g : Nat → Nat → Int32) (L : Nat → Nat) (X : Nat → Nat → Nat) (x y : Int32) (hR : cp_R k h b n c9 M) (hT : cp_T h b T n) (hn9 : mo_B n) (hs : sm n c9 g L X) : Met l yX3_cls wsX3_cls ({ frames := 1, cells := 0, slots := 0, locals := 20 }) (va_Pc [.ref (h 0), .int x, .int y] (mw_U D vwCl (TY k) M sz)) (va_Qi (fun r M1 => M1 = M ∧ R_cls x y r) (mw_B D vwCl M sz) (mw_A M sz)) 0 0 (mw_A M sz) := by
  refine mw_met (cc := cX3_cls) (maxL := 3) (ret := (some .boolean)) (lv := [(0, .ref (h 0)), (1, .int x), (2, .int y)]) (by decide) rfl (Nat.le_of_ble_eq_true rfl) rfl ?_
  intro p e s m below meth c ls hE hr hlocks hin hml hsz hP hS hl
  subst hsz
  have hx := hE.1
  have hb := hE.2.1
  have hA : ∀ q, s.heap.size ≤ q → mw_A M s.heap.size q := fun q h => Or.inr h
  obtain ⟨hb0, hb1, hb2, hb3⟩ := id hn9
  obtain ⟨⟨f0, f1, f2, f3, f4⟩, fP, fO, fX⟩ := id hR
  obtain ⟨sP, sO, sX, sG, sL⟩ := id hs
  refine lv_iload_n hx hb dX3_cls_0 rfl (lv_at hl 2 rfl) ?_
  rcases sw_cases y 6 (by decide) with hw_1 | ⟨jw_1, hjw_1, ew_1⟩
  · refine lv_tableOut (tgt := 122) hx hb dX3_cls_1 (sw_out (by decide) hw_1) (by decide) ?_
    refine lv_iconst (v := 0) hx hb dX3_cls_122 (by decide) ?_
    exact mw_zret (v := 0) (ty := .boolean) hE hr hlocks hP hS dX3_cls_123 (rfl) (⟨rfl, Or.inl ⟨hw_1, rfl⟩⟩)
  · rcases (show jw_1 = 0 ∨ jw_1 = 1 ∨ jw_1 = 2 ∨ jw_1 = 3 ∨ jw_1 = 4 ∨ jw_1 = 5 by omega) with rfl | rfl | rfl | rfl | rfl | rfl
    · subst ew_1
      refine lv_tableIn (off := (39)) (tgt := 40) hx hb dX3_cls_1 (by decide +kernel) (by decide +kernel) (by decide +kernel) (by decide) ?_
      refine lv_iload_n hx hb dX3_cls_40 rfl (lv_at hl 1 rfl) ?_
      refine lv_bipush (v := nI 48) hx hb dX3_cls_41 (by decide) ?_
      refine lv_icmp_lt (tgt := 56) hx hb dX3_cls_43 (by decide) (fun c_43 => ?_) (fun c_43 => ?_)
      · refine lv_iconst (v := 0) hx hb dX3_cls_56 (by decide) ?_
        exact mw_zret (v := 0) (ty := .boolean) hE hr hlocks hP hS dX3_cls_57 (rfl) (⟨rfl, Or.inr ⟨0, by decide, rfl, by simp [clsf, bz, c_43]⟩⟩)
      · refine lv_iload_n hx hb dX3_cls_46 rfl (lv_at hl 1 rfl) ?_
        refine lv_bipush (v := nI 57) hx hb dX3_cls_47 (by decide) ?_
        refine lv_icmp_gt (tgt := 56) hx hb dX3_cls_49 (by decide) (fun c_49 => ?_) (fun c_49 => ?_)
        · refine lv_iconst (v := 0) hx hb dX3_cls_56 (by decide) ?_
          exact mw_zret (v := 0) (ty := .boolean) hE hr hlocks hP hS dX3_cls_57 (rfl) (⟨rfl, Or.inr ⟨0, by decide, rfl, by simp [clsf, bz, c_43, c_49]⟩⟩)
        · refine lv_iconst (v := 1) hx hb dX3_cls_52 (by decide) ?_
          refine lv_goto (tgt := 57) hx hb dX3_cls_53 (by decide) ?_
          exact mw_zret (v := 1) (ty := .boolean) hE hr hlocks hP hS dX3_cls_57 (rfl) (⟨rfl, Or.inr ⟨0, by decide, rfl, by simp [clsf, bz, c_43, c_49]⟩⟩)
    · subst ew_1
      refine lv_tableIn (off := (57)) (tgt := 58) hx hb dX3_cls_1 (by decide +kernel) (by decide +kernel) (by decide +kernel) (by decide) ?_
      refine lv_iload_n hx hb dX3_cls_58 rfl (lv_at hl 1 rfl) ?_
      refine mw_calli hP hS hA (va_runS (As := [.int x]) (rest := []) ⟨hx, hb, hml, hE.2.2.2.1, hE.2.2.1⟩ (tX3_isGreatLetter l D k _ _ x) (va_cwS 1 hE.2.2.1 gX3_cls_X3_isGreatLetter rfl rfl rfl (by decide +kernel) ⟨(Nat.le_of_ble_eq_true rfl), (Nat.le_of_ble_eq_true rfl)⟩) (mw_preS hE hP [.int x]) rfl rfl hl.1 rfl (lv_room (Nat.le_of_ble_eq_true rfl)) dX3_cls_59 ⟨(Nat.le_of_ble_eq_true rfl), (Nat.le_of_ble_eq_true rfl)⟩) (fun r_4 M1 H locs hw hP hS => ?_)
      obtain ⟨hM1, er_4⟩ := hw
      rw [hM1] at hP
      by_cases hq_5 : ¬ x < nI 65 ∧ ¬ nI 90 < x
      · obtain rfl : r_4 = 1 := er_4.trans (bz_t hq_5)
        refine lv_if_ne (tgt := 72) hx hb dX3_cls_62 (by decide) (fun _ => ?_) (fun c9 => absurd c9 (by decide))
        refine lv_iconst (v := 1) hx hb dX3_cls_72 (by decide) ?_
        refine lv_goto (tgt := 77) hx hb dX3_cls_73 (by decide) ?_
        exact mw_zret (v := 1) (ty := .boolean) hE hr hlocks hP hS dX3_cls_77 (rfl) (⟨rfl, Or.inr ⟨1, by decide, rfl, (bz_t (Or.inl hq_5)).symm⟩⟩)
      · obtain rfl : r_4 = 0 := er_4.trans (bz_f hq_5)
        refine lv_if_ne (tgt := 72) hx hb dX3_cls_62 (by decide) (fun c9 => absurd (by decide) c9) (fun _ => ?_)
        refine lv_iload_n hx hb dX3_cls_65 rfl (lv_at hl 1 rfl) ?_
        refine mw_calli hP hS hA (va_runS (As := [.int x]) (rest := []) ⟨hx, hb, hml, hE.2.2.2.1, hE.2.2.1⟩ (tX3_isSmallLetter l D k _ _ x) (va_cwS 1 hE.2.2.1 gX3_cls_X3_isSmallLetter rfl rfl rfl (by decide +kernel) ⟨(Nat.le_of_ble_eq_true rfl), (Nat.le_of_ble_eq_true rfl)⟩) (mw_preS hE hP [.int x]) rfl rfl hl.1 rfl (lv_room (Nat.le_of_ble_eq_true rfl)) dX3_cls_66 ⟨(Nat.le_of_ble_eq_true rfl), (Nat.le_of_ble_eq_true rfl)⟩) (fun r_8 M1 H locs hw hP hS => ?_)
        obtain ⟨hM1, er_8⟩ := hw
        rw [hM1] at hP
        by_cases hq_9 : ¬ x < nI 97 ∧ ¬ nI 122 < x
        · obtain rfl : r_8 = 1 := er_8.trans (bz_t hq_9)
          refine lv_if_eq (tgt := 76) hx hb dX3_cls_69 (by decide) (fun c9 => absurd c9 (by decide)) (fun _ => ?_)
          refine lv_iconst (v := 1) hx hb dX3_cls_72 (by decide) ?_
          refine lv_goto (tgt := 77) hx hb dX3_cls_73 (by decide) ?_
          exact mw_zret (v := 1) (ty := .boolean) hE hr hlocks hP hS dX3_cls_77 (rfl) (⟨rfl, Or.inr ⟨1, by decide, rfl, (bz_t (Or.inr hq_9)).symm⟩⟩)
        · obtain rfl : r_8 = 0 := er_8.trans (bz_f hq_9)
          refine lv_if_eq (tgt := 76) hx hb dX3_cls_69 (by decide) (fun _ => ?_) (fun c9 => absurd (by decide) c9)
          refine lv_iconst (v := 0) hx hb dX3_cls_76 (by decide) ?_
          exact mw_zret (v := 0) (ty := .boolean) hE hr hlocks hP hS dX3_cls_77 (rfl) (⟨rfl, Or.inr ⟨1, by decide, rfl, (bz_f (fun h => h.elim hq_5 hq_9)).symm⟩⟩)
    · subst ew_1
      refine lv_tableIn (off := (77)) (tgt := 78) hx hb dX3_cls_1 (by decide +kernel) (by decide +kernel) (by decide +kernel) (by decide) ?_
      refine lv_iload_n hx hb dX3_cls_78 rfl (lv_at hl 1 rfl) ?_
      refine mw_calli hP hS hA (va_runS (As := [.int x]) (rest := []) ⟨hx, hb, hml, hE.2.2.2.1, hE.2.2.1⟩ (tX3_isGreatLetter l D k _ _ x) (va_cwS 1 hE.2.2.1 gX3_cls_X3_isGreatLetter rfl rfl rfl (by decide +kernel) ⟨(Nat.le_of_ble_eq_true rfl), (Nat.le_of_ble_eq_true rfl)⟩) (mw_preS hE hP [.int x]) rfl rfl hl.1 rfl (lv_room (Nat.le_of_ble_eq_true rfl)) dX3_cls_79 ⟨(Nat.le_of_ble_eq_true rfl), (Nat.le_of_ble_eq_true rfl)⟩) (fun r_12 M1 H locs hw hP hS => ?_)
      obtain ⟨hM1, er_12⟩ := hw
      rw [hM1] at hP
      by_cases hq_13 : ¬ x < nI 65 ∧ ¬ nI 90 < x
      · obtain rfl : r_12 = 1 := er_12.trans (bz_t hq_13)
        exact mw_zret (v := 1) (ty := .boolean) hE hr hlocks hP hS dX3_cls_82 (rfl) (⟨rfl, Or.inr ⟨2, by decide, rfl, (bz_t hq_13).symm⟩⟩)
      · obtain rfl : r_12 = 0 := er_12.trans (bz_f hq_13)
        exact mw_zret (v := 0) (ty := .boolean) hE hr hlocks hP hS dX3_cls_82 (rfl) (⟨rfl, Or.inr ⟨2, by decide, rfl, (bz_f hq_13).symm⟩⟩)
    · subst ew_1
      refine lv_tableIn (off := (82)) (tgt := 83) hx hb dX3_cls_1 (by decide +kernel) (by decide +kernel) (by decide +kernel) (by decide) ?_
      refine lv_iload_n hx hb dX3_cls_83 rfl (lv_at hl 1 rfl) ?_
      refine mw_calli hP hS hA (va_runS (As := [.int x]) (rest := []) ⟨hx, hb, hml, hE.2.2.2.1, hE.2.2.1⟩ (tX3_isSmallLetter l D k _ _ x) (va_cwS 1 hE.2.2.1 gX3_cls_X3_isSmallLetter rfl rfl rfl (by decide +kernel) ⟨(Nat.le_of_ble_eq_true rfl), (Nat.le_of_ble_eq_true rfl)⟩) (mw_preS hE hP [.int x]) rfl rfl hl.1 rfl (lv_room (Nat.le_of_ble_eq_true rfl)) dX3_cls_84 ⟨(Nat.le_of_ble_eq_true rfl), (Nat.le_of_ble_eq_true rfl)⟩) (fun r_14 M1 H locs hw hP hS => ?_)
      obtain ⟨hM1, er_14⟩ := hw
      rw [hM1] at hP
      by_cases hq_15 : ¬ x < nI 97 ∧ ¬ nI 122 < x
      · obtain rfl : r_14 = 1 := er_14.trans (bz_t hq_15)
        exact mw_zret (v := 1) (ty := .boolean) hE hr hlocks hP hS dX3_cls_87 (rfl) (⟨rfl, Or.inr ⟨3, by decide, rfl, (bz_t hq_15).symm⟩⟩)
      · obtain rfl : r_14 = 0 := er_14.trans (bz_f hq_15)
        exact mw_zret (v := 0) (ty := .boolean) hE hr hlocks hP hS dX3_cls_87 (rfl) (⟨rfl, Or.inr ⟨3, by decide, rfl, (bz_f hq_15).symm⟩⟩)
    · subst ew_1
      refine lv_tableIn (off := (87)) (tgt := 88) hx hb dX3_cls_1 (by decide +kernel) (by decide +kernel) (by decide +kernel) (by decide) ?_
      refine lv_iload_n hx hb dX3_cls_88 rfl (lv_at hl 1 rfl) ?_
      refine lv_bipush (v := nI 32) hx hb dX3_cls_89 (by decide) ?_
      refine lv_icmp_ne (tgt := 98) hx hb dX3_cls_91 (by decide) (fun c_91 => ?_) (fun c_91 => ?_)
      · refine lv_iconst (v := 0) hx hb dX3_cls_98 (by decide) ?_
        exact mw_zret (v := 0) (ty := .boolean) hE hr hlocks hP hS dX3_cls_99 (rfl) (⟨rfl, Or.inr ⟨4, by decide, rfl, by simp [clsf, bz, c_91]⟩⟩)
      · refine lv_iconst (v := 1) hx hb dX3_cls_94 (by decide) ?_
        refine lv_goto (tgt := 99) hx hb dX3_cls_95 (by decide) ?_
        exact mw_zret (v := 1) (ty := .boolean) hE hr hlocks hP hS dX3_cls_99 (rfl) (⟨rfl, Or.inr ⟨4, by decide, rfl, by simp [clsf, bz, c_91]⟩⟩)
    · subst ew_1
      refine lv_tableIn (off := (99)) (tgt := 100) hx hb dX3_cls_1 (by decide +kernel) (by decide +kernel) (by decide +kernel) (by decide) ?_
      refine lv_iload_n hx hb dX3_cls_100 rfl (lv_at hl 1 rfl) ?_
      refine lv_if_lt (tgt := 110) hx hb dX3_cls_101 (by decide) (fun c_101 => ?_) (fun c_101 => ?_)
      · refine lv_iload_n hx hb dX3_cls_110 rfl (lv_at hl 1 rfl) ?_
        refine lv_bipush (v := nI 127) hx hb dX3_cls_111 (by decide) ?_
        refine lv_icmp_ne (tgt := 120) hx hb dX3_cls_113 (by decide) (fun c_113 => ?_) (fun c_113 => ?_)
        · refine lv_iconst (v := 0) hx hb dX3_cls_120 (by decide) ?_
          exact mw_zret (v := 0) (ty := .boolean) hE hr hlocks hP hS dX3_cls_121 (rfl) (⟨rfl, Or.inr ⟨5, by decide, rfl, by simp [clsf, bz, c_101, c_113]⟩⟩)
        · refine lv_iconst (v := 1) hx hb dX3_cls_116 (by decide) ?_
          refine lv_goto (tgt := 121) hx hb dX3_cls_117 (by decide) ?_
          exact mw_zret (v := 1) (ty := .boolean) hE hr hlocks hP hS dX3_cls_121 (rfl) (⟨rfl, Or.inr ⟨5, by decide, rfl, by simp [clsf, bz, c_101, c_113]⟩⟩)
      · refine lv_iload_n hx hb dX3_cls_104 rfl (lv_at hl 1 rfl) ?_
        refine lv_bipush (v := nI 32) hx hb dX3_cls_105 (by decide) ?_
        refine lv_icmp_lt (tgt := 116) hx hb dX3_cls_107 (by decide) (fun c_107 => ?_) (fun c_107 => ?_)
        · refine lv_iconst (v := 1) hx hb dX3_cls_116 (by decide) ?_
          refine lv_goto (tgt := 121) hx hb dX3_cls_117 (by decide) ?_
          exact mw_zret (v := 1) (ty := .boolean) hE hr hlocks hP hS dX3_cls_121 (rfl) (⟨rfl, Or.inr ⟨5, by decide, rfl, by simp [clsf, bz, c_101, c_107]⟩⟩)
        · refine lv_iload_n hx hb dX3_cls_110 rfl (lv_at hl 1 rfl) ?_
          refine lv_bipush (v := nI 127) hx hb dX3_cls_111 (by decide) ?_
          refine lv_icmp_ne (tgt := 120) hx hb dX3_cls_113 (by decide) (fun c_113 => ?_) (fun c_113 => ?_)
          · refine lv_iconst (v := 0) hx hb dX3_cls_120 (by decide) ?_
            exact mw_zret (v := 0) (ty := .boolean) hE hr hlocks hP hS dX3_cls_121 (rfl) (⟨rfl, Or.inr ⟨5, by decide, rfl, by simp [clsf, bz, c_101, c_107, c_113]⟩⟩)
          · refine lv_iconst (v := 1) hx hb dX3_cls_116 (by decide) ?_
            refine lv_goto (tgt := 121) hx hb dX3_cls_117 (by decide) ?_
            exact mw_zret (v := 1) (ty := .boolean) hE hr hlocks hP hS dX3_cls_121 (rfl) (⟨rfl, Or.inr ⟨5, by decide, rfl, by simp [clsf, bz, c_101, c_107, c_113]⟩⟩)

set_option maxHeartbeats 4000000 in
set_option maxRecDepth 100000 in
theorem tX3_print (l : Launch) (D : va_G) (k : Nat → ClassId) (M : mw) (sz : Nat) (h : Nat → Nat) (b : Nat → Nat → Nat) (T : Nat → Nat × Nat) (n : Nat → Nat) (c9 : Nat → Nat → Nat → Int32) (g : Nat → Nat → Int32) (L : Nat → Nat) (X : Nat → Nat → Nat) (x y : Int32) (hR : cp_R k h b n c9 M) (hT : cp_T h b T n) (hn9 : mo_B n) (hs : sm n c9 g L X) : Met l yX3_print wsX3_print ({ frames := 1, cells := 0, slots := 0, locals := 20 }) (va_Pc [.ref (h 0), .int x, .int y] (mw_U D vwCl (TY k) M sz)) (va_Qi (fun r M1 => M1 = M ∧ R_print x y r) (mw_B D vwCl M sz) (mw_A M sz)) 0 0 (mw_A M sz) := by
  refine mw_met (cc := cX3_print) (maxL := 3) (ret := (some .byte)) (lv := [(0, .ref (h 0)), (1, .int x), (2, .int y)]) (by decide) rfl (Nat.le_of_ble_eq_true rfl) rfl ?_
  intro p e s m below meth c ls hE hr hlocks hin hml hsz hP hS hl
  subst hsz
  have hx := hE.1
  have hb := hE.2.1
  have hA : ∀ q, s.heap.size ≤ q → mw_A M s.heap.size q := fun q h => Or.inr h
  obtain ⟨hb0, hb1, hb2, hb3⟩ := id hn9
  obtain ⟨⟨f0, f1, f2, f3, f4⟩, fP, fO, fX⟩ := id hR
  obtain ⟨sP, sO, sX, sG, sL⟩ := id hs
  refine lv_iload_n hx hb dX3_print_0 rfl (lv_at hl 1 rfl) ?_
  refine mw_calli hP hS hA (va_runS (As := [.int x]) (rest := []) ⟨hx, hb, hml, hE.2.2.2.1, hE.2.2.1⟩ (tX3_isCode l D k _ _ x) (va_cwS 1 hE.2.2.1 gX3_print_X3_isCode rfl rfl rfl (by decide +kernel) ⟨(Nat.le_of_ble_eq_true rfl), (Nat.le_of_ble_eq_true rfl)⟩) (mw_preS hE hP [.int x]) rfl rfl hl.1 rfl (lv_room (Nat.le_of_ble_eq_true rfl)) dX3_print_1 ⟨(Nat.le_of_ble_eq_true rfl), (Nat.le_of_ble_eq_true rfl)⟩) (fun r_1 M1 H locs hw hP hS => ?_)
  obtain ⟨hM1, hw⟩ := hw
  rw [hM1] at hP
  rcases hw with ⟨hq_2, rfl⟩ | ⟨hq_2, rfl⟩
  · obtain ⟨j, hj, rfl⟩ := vp_in_of hq_2 (by omega)
    skip
    refine lv_if_ne (tgt := 9) hx hb dX3_print_4 (by decide) (fun _ => ?_) (fun c9 => absurd c9 (by decide))
    refine lv_iload_n hx hb dX3_print_9 rfl (lv_at hl 2 rfl) ?_
    rcases sw_cases y 3 (by decide) with hw_4 | ⟨jw_4, hjw_4, ew_4⟩
    · refine lv_tableOut (tgt := 62) hx hb dX3_print_10 (sw_out (by decide) hw_4) (by decide) ?_
      refine lv_iconst (v := 0) hx hb dX3_print_62 (by decide) ?_
      exact mw_zret (v := 0) (ty := .byte) hE hr hlocks hP hS dX3_print_63 (rfl) (⟨rfl, Or.inr ⟨j, hj, rfl, Or.inl ⟨hw_4, rfl⟩⟩⟩)
    · rcases (show jw_4 = 0 ∨ jw_4 = 1 ∨ jw_4 = 2 by omega) with rfl | rfl | rfl
      · subst ew_4
        refine lv_tableIn (off := (26)) (tgt := 36) hx hb dX3_print_10 (by decide +kernel) (by decide +kernel) (by decide +kernel) (by decide) ?_
        refine lv_iload_n hx hb dX3_print_36 rfl (lv_at hl 1 rfl) ?_
        refine lv_iconst (v := nI 4) hx hb dX3_print_37 (by decide) ?_
        refine lv_ishr hx hb dX3_print_38 ?_
        refine rw_i (v := nI (j / 16)) (pk_shrN (by omega) _ 4 (by decide)) ?_
        refine mw_calli hP hS hA (va_runS (As := [.int (nI (j / 16))]) (rest := []) ⟨hx, hb, hml, hE.2.2.2.1, hE.2.2.1⟩ (tX3_hexDigit l D k _ _ (j / 16) (by omega)) (va_cwS 1 hE.2.2.1 gX3_print_X3_hexDigit rfl rfl rfl (by decide +kernel) ⟨(Nat.le_of_ble_eq_true rfl), (Nat.le_of_ble_eq_true rfl)⟩) (mw_preS hE hP [.int (nI (j / 16))]) rfl rfl hl.1 rfl (lv_room (Nat.le_of_ble_eq_true rfl)) dX3_print_39 ⟨(Nat.le_of_ble_eq_true rfl), (Nat.le_of_ble_eq_true rfl)⟩) (fun r_5 M1 H locs hw hP hS => ?_)
        obtain ⟨hM1, rfl⟩ := hw
        rw [hM1] at hP
        refine lv_i2b (v := nI (hexn (j / 16))) hx hb dX3_print_42 (byte_ok (hexn_lt (by omega))) ?_
        exact mw_zret (v := nI (hexn (j / 16))) (ty := .byte) hE hr hlocks hP hS dX3_print_43 (byte_nar (hexn_lt (by omega))) (⟨rfl, Or.inr ⟨j, hj, rfl, Or.inr (Or.inl ⟨rfl, rfl⟩)⟩⟩)
      · subst ew_4
        refine lv_tableIn (off := (34)) (tgt := 44) hx hb dX3_print_10 (by decide +kernel) (by decide +kernel) (by decide +kernel) (by decide) ?_
        refine lv_iload_n hx hb dX3_print_44 rfl (lv_at hl 1 rfl) ?_
        refine lv_bipush (v := nI 15) hx hb dX3_print_45 (by decide) ?_
        refine lv_iand hx hb dX3_print_47 ?_
        refine rw_i (v := nI (j % 16)) (pk_andN (by omega) 4 (by decide)) ?_
        refine mw_calli hP hS hA (va_runS (As := [.int (nI (j % 16))]) (rest := []) ⟨hx, hb, hml, hE.2.2.2.1, hE.2.2.1⟩ (tX3_hexDigit l D k _ _ (j % 16) (by omega)) (va_cwS 1 hE.2.2.1 gX3_print_X3_hexDigit rfl rfl rfl (by decide +kernel) ⟨(Nat.le_of_ble_eq_true rfl), (Nat.le_of_ble_eq_true rfl)⟩) (mw_preS hE hP [.int (nI (j % 16))]) rfl rfl hl.1 rfl (lv_room (Nat.le_of_ble_eq_true rfl)) dX3_print_48 ⟨(Nat.le_of_ble_eq_true rfl), (Nat.le_of_ble_eq_true rfl)⟩) (fun r_6 M1 H locs hw hP hS => ?_)
        obtain ⟨hM1, rfl⟩ := hw
        rw [hM1] at hP
        refine lv_i2b (v := nI (hexn (j % 16))) hx hb dX3_print_51 (byte_ok (hexn_lt (by omega))) ?_
        exact mw_zret (v := nI (hexn (j % 16))) (ty := .byte) hE hr hlocks hP hS dX3_print_52 (byte_nar (hexn_lt (by omega))) (⟨rfl, Or.inr ⟨j, hj, rfl, Or.inr (Or.inr (Or.inl ⟨rfl, rfl⟩))⟩⟩)
      · subst ew_4
        refine lv_tableIn (off := (43)) (tgt := 53) hx hb dX3_print_10 (by decide +kernel) (by decide +kernel) (by decide +kernel) (by decide) ?_
        refine lv_iload_n hx hb dX3_print_53 rfl (lv_at hl 1 rfl) ?_
        refine lv_bipush (v := nI 15) hx hb dX3_print_54 (by decide) ?_
        refine lv_iand hx hb dX3_print_56 ?_
        refine rw_i (v := nI (j % 16)) (pk_andN (by omega) 4 (by decide)) ?_
        refine mw_calli hP hS hA (va_runS (As := [.int (nI (j % 16))]) (rest := []) ⟨hx, hb, hml, hE.2.2.2.1, hE.2.2.1⟩ (tX3_halfAsSign l D k _ _ (j % 16) (by omega)) (va_cwS 1 hE.2.2.1 gX3_print_X3_halfAsSign rfl rfl rfl (by decide +kernel) ⟨(Nat.le_of_ble_eq_true rfl), (Nat.le_of_ble_eq_true rfl)⟩) (mw_preS hE hP [.int (nI (j % 16))]) rfl rfl hl.1 rfl (lv_room (Nat.le_of_ble_eq_true rfl)) dX3_print_57 ⟨(Nat.le_of_ble_eq_true rfl), (Nat.le_of_ble_eq_true rfl)⟩) (fun r_7 M1 H locs hw hP hS => ?_)
        obtain ⟨hM1, rfl⟩ := hw
        rw [hM1] at hP
        refine lv_i2b (v := nI (sgnn (j % 16))) hx hb dX3_print_60 (byte_ok (sgnn_lt _)) ?_
        exact mw_zret (v := nI (sgnn (j % 16))) (ty := .byte) hE hr hlocks hP hS dX3_print_61 (byte_nar (sgnn_lt _)) (⟨rfl, Or.inr ⟨j, hj, rfl, Or.inr (Or.inr (Or.inr ⟨rfl, rfl⟩))⟩⟩)
  · skip
    refine lv_if_ne (tgt := 9) hx hb dX3_print_4 (by decide) (fun c9 => absurd (by decide) c9) (fun _ => ?_)
    refine lv_iconst (v := 0) hx hb dX3_print_7 (by decide) ?_
    exact mw_zret (v := 0) (ty := .byte) hE hr hlocks hP hS dX3_print_8 (rfl) (⟨rfl, Or.inl ⟨hq_2, rfl⟩⟩)
