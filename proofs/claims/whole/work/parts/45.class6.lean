set_option maxHeartbeats 4000000 in
set_option maxRecDepth 100000 in
theorem tX3_alphabetRefusal (l : Launch) (D : va_G) (k : Nat → ClassId) (M : mw) (sz : Nat) (al x y : Int32) : Met l yX3_alphabetRefusal wsX3_alphabetRefusal ({ frames := 1, cells := 0, slots := 0, locals := 20 }) (va_Pc [.int al, .int x, .int y] (mw_U D vwCl (TY k) M sz)) (va_Qi (fun r M1 => M1 = M ∧ ((¬ (vp_in x 256 ∧ vp_in y 256) ∧ r = -4) ∨ ((vp_in x 256 ∧ vp_in y 256) ∧ ((al = 0 ∧ r = -5) ∨ (¬ al = 0 ∧ r = 0))))) (mw_B D vwCl M sz) (mw_A M sz)) 0 0 (mw_A M sz) := by
  refine mw_met (cc := cX3_alphabetRefusal) (maxL := 3) (ret := (some .int)) (lv := [(0, .int al), (1, .int x), (2, .int y)]) (by decide) rfl (Nat.le_of_ble_eq_true rfl) rfl ?_
  intro p e s m below meth c ls hE hr hlocks hin hml hsz hP hS hl
  subst hsz
  have hx := hE.1
  have hb := hE.2.1
  have hA : ∀ q, s.heap.size ≤ q → mw_A M s.heap.size q := fun q h => Or.inr h
  refine lv_iload_n hx hb dX3_alphabetRefusal_0 rfl (lv_at hl 1 rfl) ?_
  refine mw_calli hP hS hA (va_runS (As := [.int x]) (rest := []) ⟨hx, hb, hml, hE.2.2.2.1, hE.2.2.1⟩ (tX3_isCode l D k _ _ x) (va_cwS 1 hE.2.2.1 gX3_alphabetRefusal_X3_isCode rfl rfl rfl (by decide +kernel) ⟨(Nat.le_of_ble_eq_true rfl), (Nat.le_of_ble_eq_true rfl)⟩) (mw_preS hE hP [.int x]) rfl rfl hl.1 rfl (lv_room (Nat.le_of_ble_eq_true rfl)) dX3_alphabetRefusal_1 ⟨(Nat.le_of_ble_eq_true rfl), (Nat.le_of_ble_eq_true rfl)⟩) (fun r_1 M1 H locs hw hP hS => ?_)
  obtain ⟨hM1, hw⟩ := hw
  rw [hM1] at hP
  rcases hw with ⟨hq_2, rfl⟩ | ⟨hq_2, rfl⟩
  · obtain ⟨i, hi, rfl⟩ := vp_in_of hq_2 (by omega)
    skip
    refine lv_if_eq (tgt := 14) hx hb dX3_alphabetRefusal_4 (by decide) (fun c9 => absurd c9 (by decide)) (fun _ => ?_)
    refine lv_iload_n hx hb dX3_alphabetRefusal_7 rfl (lv_at hl 2 rfl) ?_
    refine mw_calli hP hS hA (va_runS (As := [.int y]) (rest := []) ⟨hx, hb, hml, hE.2.2.2.1, hE.2.2.1⟩ (tX3_isCode l D k _ _ y) (va_cwS 1 hE.2.2.1 gX3_alphabetRefusal_X3_isCode rfl rfl rfl (by decide +kernel) ⟨(Nat.le_of_ble_eq_true rfl), (Nat.le_of_ble_eq_true rfl)⟩) (mw_preS hE hP [.int y]) rfl rfl hl.1 rfl (lv_room (Nat.le_of_ble_eq_true rfl)) dX3_alphabetRefusal_8 ⟨(Nat.le_of_ble_eq_true rfl), (Nat.le_of_ble_eq_true rfl)⟩) (fun r_4 M1 H locs hw hP hS => ?_)
    obtain ⟨hM1, hw⟩ := hw
    rw [hM1] at hP
    rcases hw with ⟨hq_5, rfl⟩ | ⟨hq_5, rfl⟩
    · obtain ⟨j, hj, rfl⟩ := vp_in_of hq_5 (by omega)
      skip
      refine lv_if_ne (tgt := 17) hx hb dX3_alphabetRefusal_11 (by decide) (fun _ => ?_) (fun c9 => absurd c9 (by decide))
      refine lv_iload_n hx hb dX3_alphabetRefusal_17 rfl (lv_at hl 0 rfl) ?_
      refine lv_if_eq (tgt := 25) hx hb dX3_alphabetRefusal_18 (by decide) (fun c_18 => ?_) (fun c_18 => ?_)
      · refine lv_bipush (v := (-5)) hx hb dX3_alphabetRefusal_25 (by decide) ?_
        exact mw_iret (v := (-5)) hE hr hlocks hP hS dX3_alphabetRefusal_27 (⟨rfl, Or.inr ⟨⟨vp_in_nI hi (by omega), vp_in_nI hj (by omega)⟩, Or.inl ⟨c_18, rfl⟩⟩⟩)
      · refine lv_iconst (v := 0) hx hb dX3_alphabetRefusal_21 (by decide) ?_
        refine lv_goto (tgt := 27) hx hb dX3_alphabetRefusal_22 (by decide) ?_
        exact mw_iret (v := 0) hE hr hlocks hP hS dX3_alphabetRefusal_27 (⟨rfl, Or.inr ⟨⟨vp_in_nI hi (by omega), vp_in_nI hj (by omega)⟩, Or.inr ⟨c_18, rfl⟩⟩⟩)
    · skip
      refine lv_if_ne (tgt := 17) hx hb dX3_alphabetRefusal_11 (by decide) (fun c9 => absurd (by decide) c9) (fun _ => ?_)
      refine lv_bipush (v := (-4)) hx hb dX3_alphabetRefusal_14 (by decide) ?_
      exact mw_iret (v := (-4)) hE hr hlocks hP hS dX3_alphabetRefusal_16 (⟨rfl, Or.inl ⟨fun q => hq_5 q.2, rfl⟩⟩)
  · skip
    refine lv_if_eq (tgt := 14) hx hb dX3_alphabetRefusal_4 (by decide) (fun _ => ?_) (fun c9 => absurd (by decide) c9)
    refine lv_bipush (v := (-4)) hx hb dX3_alphabetRefusal_14 (by decide) ?_
    exact mw_iret (v := (-4)) hE hr hlocks hP hS dX3_alphabetRefusal_16 (⟨rfl, Or.inl ⟨fun q => hq_2 q.1, rfl⟩⟩)

set_option maxRecDepth 20000 in
theorem mX3_also_f93 : Cond.fieldLink RX3 93 "CodePages$Order" "alphabet" "Z" ∈ wsX3_also := by decide +kernel
set_option maxRecDepth 20000 in
theorem iX3_also_X0 : ∀ w ∈ u_ws RX0 TX0 4, w ∈ wsX3_also := by decide +kernel
set_option maxHeartbeats 4000000 in
set_option maxRecDepth 100000 in
theorem tX3_also (l : Launch) (D : va_G) (k : Nat → ClassId) (M : mw) (sz : Nat) (h : Nat → Nat) (b : Nat → Nat → Nat) (T : Nat → Nat × Nat) (n : Nat → Nat) (c9 : Nat → Nat → Nat → Int32) (g : Nat → Nat → Int32) (L : Nat → Nat) (X : Nat → Nat → Nat) (x y z : Int32) (hR : cp_R k h b n c9 M) (hT : cp_T h b T n) (hn9 : mo_B n) (hs : sm n c9 g L X) : Met l yX3_also wsX3_also ({ frames := 2, cells := 0, slots := 0, locals := 44 }) (va_Pc [.ref (h 0), .int x, .int y, .int z] (mw_U D vwCl (TY k) M sz)) (va_Qi (fun r M1 => ∃ c1 g1, cp_R k h b n c1 M1 ∧ sm n c1 g1 L X ∧ R_also n g x y z r g1) (mw_B D vwCl M sz) (mw_A M sz)) 0 0 (mw_A M sz) := by
  refine mw_met (cc := cX3_also) (maxL := 6) (ret := (some .int)) (lv := [(0, .ref (h 0)), (1, .int x), (2, .int y), (3, .int z)]) (by decide) rfl (Nat.le_of_ble_eq_true rfl) rfl ?_
  intro p e s m below meth c ls hE hr hlocks hin hml hsz hP hS hl
  subst hsz
  have hx := hE.1
  have hb := hE.2.1
  have hA : ∀ q, s.heap.size ≤ q → mw_A M s.heap.size q := fun q h => Or.inr h
  obtain ⟨hb0, hb1, hb2, hb3⟩ := id hn9
  obtain ⟨⟨f0, f1, f2, f3, f4⟩, fP, fO, fX⟩ := id hR
  obtain ⟨sP, sO, sX, sG, sL⟩ := id hs
  refine lv_aload_n hx hb dX3_also_0 rfl (lv_at hl 0 rfl) ?_
  refine lv_iload_n hx hb dX3_also_1 rfl (lv_at hl 1 rfl) ?_
  refine mw_callq hP hS hA (va_runV (As := [.int x]) (rest := []) ⟨hx, hb, hml, hE.2.2.2.1, hE.2.2.1⟩ (tX3_orderAt l D k _ _ h (fun j => nI (n (j - 4))) (n 1) (b 3) x hb1 f0 f2) (cwV 1 hE.2.2.1 gX3_also_X3_orderAt rfl rfl rfl (by decide +kernel) ⟨(Nat.le_of_ble_eq_true rfl), (Nat.le_of_ble_eq_true rfl)⟩) (mw_preV hE hP (ci := 4) rfl rfl f0 [.int x]) rfl rfl hl.1 rfl (lv_room (Nat.le_of_ble_eq_true rfl)) dX3_also_2 ⟨(Nat.le_of_ble_eq_true rfl), (Nat.le_of_ble_eq_true rfl)⟩) (fun r_1 M1 H locs hw hP hS => ?_)
  obtain ⟨hM1, hw⟩ := hw
  rw [hM1] at hP
  rcases hw with ⟨oo, hoo, rfl, rfl⟩ | ⟨hq_2, rfl⟩
  · skip
    refine lv_astore (lv' := [(4, .ref (b 3 oo)), (0, .ref (h 0)), (1, .int (nI oo)), (2, .int y), (3, .int z)]) hx hb dX3_also_5 hl (by decide) rfl (fun ls hl => ?_)
    refine lv_aload hx hb dX3_also_7 (lv_at hl 0 rfl) ?_
    refine lv_ifnonnull (tgt := 15) hx hb dX3_also_9 (by decide) ?_
    refine lv_aload hx hb dX3_also_15 (lv_at hl 0 rfl) ?_
    refine mw_get (v := .int (c9 6 oo 0)) (ci := 1) (T := TX0) (N := 4) (C := RX0) hE iX3_also_X0 hP ((fO oo hoo).1) rfl 0 (by decide) (hE.2.2.1 _ mX3_also_f93) rfl rfl dX3_also_17 ?_
    refine lv_iload_n hx hb dX3_also_20 rfl (lv_at hl 3 rfl) ?_
    refine lv_iload_n hx hb dX3_also_21 rfl (lv_at hl 4 rfl) ?_
    refine mw_calli hP hS hA (va_runS (As := [.int (c9 6 oo 0), .int y, .int z]) (rest := []) ⟨hx, hb, hml, hE.2.2.2.1, hE.2.2.1⟩ (tX3_alphabetRefusal l D k _ _ (c9 6 oo 0) y z) (va_cwS 3 hE.2.2.1 gX3_also_X3_alphabetRefusal rfl rfl rfl (by decide +kernel) ⟨(Nat.le_of_ble_eq_true rfl), (Nat.le_of_ble_eq_true rfl)⟩) (mw_preS hE hP [.int (c9 6 oo 0), .int y, .int z]) rfl rfl hl.1 rfl (lv_room (Nat.le_of_ble_eq_true rfl)) dX3_also_22 ⟨(Nat.le_of_ble_eq_true rfl), (Nat.le_of_ble_eq_true rfl)⟩) (fun r_3 M1 H locs hw hP hS => ?_)
    obtain ⟨hM1, hw⟩ := hw
    rw [hM1] at hP
    rcases hw with ⟨q2, rfl⟩ | ⟨⟨v1, v2⟩, ⟨q3, rfl⟩ | ⟨q3, rfl⟩⟩
    · skip
      refine lv_istore (lv' := [(5, .int (-4)), (4, .ref (b 3 oo)), (0, .ref (h 0)), (1, .int (nI oo)), (2, .int y), (3, .int z)]) hx hb dX3_also_25 hl (by decide) rfl (fun ls hl => ?_)
      refine lv_iload hx hb dX3_also_27 (lv_at hl 0 rfl) ?_
      refine lv_if_eq (tgt := 35) hx hb dX3_also_29 (by decide) (fun c9 => absurd c9 (by decide)) (fun _ => ?_)
      refine lv_iload hx hb dX3_also_32 (lv_at hl 0 rfl) ?_
      exact mw_iret (v := (-4)) hE hr hlocks hP hS dX3_also_34 (⟨c9, g, hR, hs, Or.inl ⟨Or.inr (Or.inl ⟨vp_in_nI hoo (by omega), q2, rfl⟩), by decide, rfl⟩⟩)
    · obtain ⟨i, hi, rfl⟩ := vp_in_of v1 (by omega)
      obtain ⟨j, hj, rfl⟩ := vp_in_of v2 (by omega)
      have h42 : ¬ g 4 oo = nI 2 := by intro hh; rw [(sO oo hoo).1, bz_t hh] at q3; exact absurd q3 (by decide)
      refine lv_istore (lv' := [(5, .int (-5)), (4, .ref (b 3 oo)), (0, .ref (h 0)), (1, .int (nI oo)), (2, .int (nI i)), (3, .int (nI j))]) hx hb dX3_also_25 hl (by decide) rfl (fun ls hl => ?_)
      refine lv_iload hx hb dX3_also_27 (lv_at hl 0 rfl) ?_
      refine lv_if_eq (tgt := 35) hx hb dX3_also_29 (by decide) (fun c9 => absurd c9 (by decide)) (fun _ => ?_)
      refine lv_iload hx hb dX3_also_32 (lv_at hl 0 rfl) ?_
      exact mw_iret (v := (-5)) hE hr hlocks hP hS dX3_also_34 (⟨c9, g, hR, hs, Or.inl ⟨Or.inr (Or.inr (Or.inl ⟨oo, i, j, hoo, hi, hj, rfl, rfl, rfl, h42, rfl⟩)), by decide, rfl⟩⟩)
    · obtain ⟨i, hi, rfl⟩ := vp_in_of v1 (by omega)
      obtain ⟨j, hj, rfl⟩ := vp_in_of v2 (by omega)
      have h42 : g 4 oo = nI 2 := by rcases Classical.em (g 4 oo = nI 2) with hh | hh; exact hh; exact absurd ((sO oo hoo).1.trans (bz_f hh)) q3
      refine lv_istore (lv' := [(5, .int 0), (4, .ref (b 3 oo)), (0, .ref (h 0)), (1, .int (nI oo)), (2, .int (nI i)), (3, .int (nI j))]) hx hb dX3_also_25 hl (by decide) rfl (fun ls hl => ?_)
      refine lv_iload hx hb dX3_also_27 (lv_at hl 0 rfl) ?_
      refine lv_if_eq (tgt := 35) hx hb dX3_also_29 (by decide) (fun _ => ?_) (fun c9 => absurd (by decide) c9)
      refine lv_aload hx hb dX3_also_35 (lv_at hl 1 rfl) ?_
      refine lv_iload_n hx hb dX3_also_37 rfl (lv_at hl 4 rfl) ?_
      refine lv_iload_n hx hb dX3_also_38 rfl (lv_at hl 5 rfl) ?_
      refine mw_calli hP hS hA (va_runV (As := [.int (nI i), .int (nI j)]) (rest := []) ⟨hx, hb, hml, hE.2.2.2.1, hE.2.2.1⟩ (tX0_addEqual l D k _ _ (b 3 oo) (b 4 oo) (b 5 oo) (c9 6 oo 0) (c9 5 oo 0) (c9 3 oo) (c9 4 oo) (fO oo hoo).1 (fO oo hoo).2.1 (fO oo hoo).2.2 (tg (hT.2.2.1 oo hoo).2.1 (hT.2.2.1 oo hoo).2.2 (by simp)) i j hi hj) (cwV 2 hE.2.2.1 gX3_also_X0_addEqual rfl rfl rfl (by decide +kernel) ⟨(Nat.le_of_ble_eq_true rfl), (Nat.le_of_ble_eq_true rfl)⟩) (mw_preV hE hP (ci := 1) rfl rfl ((fO oo hoo).1) [.int (nI i), .int (nI j)]) rfl rfl hl.1 rfl (lv_room (Nat.le_of_ble_eq_true rfl)) dX3_also_39 ⟨(Nat.le_of_ble_eq_true rfl), (Nat.le_of_ble_eq_true rfl)⟩) (fun r_7 M1 H locs hw hP hS => ?_)
      rcases hw with ⟨q5, rfl, hM1⟩ | ⟨q5, q6, rfl, w1, w2, w3⟩
      · rw [hM1] at hP
        refine lv_if_eq (tgt := 49) hx hb dX3_also_42 (by decide) (fun _ => ?_) (fun c9 => absurd (by decide) c9)
        refine lv_iconst (v := 0) hx hb dX3_also_49 (by decide) ?_
        exact mw_iret (v := 0) hE hr hlocks hP hS dX3_also_50 (⟨c9, g, hR, hs, Or.inr ⟨oo, i, j, hoo, hi, hj, rfl, rfl, rfl, h42, Or.inl ⟨q5.imp (fun q => (in_z (sO oo hoo).2.2 h42 hi).mp q) (fun q e => q ((in_z (sO oo hoo).2.2 h42 hj).mpr e)), rfl, rfl⟩⟩⟩)
      · skip
        refine lv_if_eq (tgt := 49) hx hb dX3_also_42 (by decide) (fun c9 => absurd c9 (by decide)) (fun _ => ?_)
        refine lv_iconst (v := 1) hx hb dX3_also_45 (by decide) ?_
        refine lv_goto (tgt := 50) hx hb dX3_also_46 (by decide) ?_
        exact mw_iret (v := 1) hE hr hlocks hP hS dX3_also_50 (⟨_, _, cp_ord hR hT hoo (x := c9 5 oo 0) ((w3 _ (tg (hT.2.2.1 oo hoo).1 (hT.2.2.1 oo hoo).2.1 (by simp)) (tg (hT.2.2.1 oo hoo).1 (hT.2.2.1 oo hoo).2.2 (by simp))).trans (fO oo hoo).1) w2 w1 (fun x _ h2 h3 => w3 x h2 h3), sm_also hs hoo hi hj h42 (fun e => q5 ((in_z (sO oo hoo).2.2 h42 hi).mpr e)), Or.inr ⟨oo, i, j, hoo, hi, hj, rfl, rfl, rfl, h42, Or.inr ⟨⟨fun e => q5 ((in_z (sO oo hoo).2.2 h42 hi).mpr e), (in_z (sO oo hoo).2.2 h42 hj).mp q6⟩, rfl, rfl⟩⟩⟩)
  · skip
    refine lv_astoreN (lv' := [(4, .null), (0, .ref (h 0)), (1, .int x), (2, .int y), (3, .int z)]) hx hb dX3_also_5 hl (by decide) rfl (fun ls hl => ?_)
    refine lv_aloadN hx hb dX3_also_7 (lv_at hl 0 rfl) ?_
    refine lv_ifnonnullN hx hb dX3_also_9 ?_
    refine lv_bipush (v := (-2)) hx hb dX3_also_12 (by decide) ?_
    exact mw_iret (v := (-2)) hE hr hlocks hP hS dX3_also_14 (⟨c9, g, hR, hs, Or.inl ⟨Or.inl ⟨hq_2, rfl⟩, by decide, rfl⟩⟩)

set_option maxRecDepth 20000 in
theorem mX3_through_f93 : Cond.fieldLink RX3 93 "CodePages$Order" "alphabet" "Z" ∈ wsX3_through := by decide +kernel
set_option maxRecDepth 20000 in
theorem iX3_through_X0 : ∀ w ∈ u_ws RX0 TX0 4, w ∈ wsX3_through := by decide +kernel
set_option maxRecDepth 20000 in
theorem mX3_through_inijavalangMath : Cond.initialized "java/lang/Math" ∈ wsX3_through := by decide +kernel
set_option maxRecDepth 20000 in
theorem mX3_through_mathabs : Cond.code Lib.Math.abs.name Lib.Math.abs.code 1 (some .int) ∈ wsX3_through := by decide +kernel
set_option maxRecDepth 20000 in
theorem mX3_through_ml108 : Cond.methodLink RX3 108 Lib.Math.abs.name ∈ wsX3_through := by decide +kernel
set_option maxRecDepth 20000 in
theorem mX3_through_stLibMathabsname : Cond.static Lib.Math.abs.name ∈ wsX3_through := by decide +kernel
set_option maxHeartbeats 4000000 in
set_option maxRecDepth 100000 in
theorem tX3_through (l : Launch) (D : va_G) (k : Nat → ClassId) (M : mw) (sz : Nat) (h : Nat → Nat) (b : Nat → Nat → Nat) (T : Nat → Nat × Nat) (n : Nat → Nat) (c9 : Nat → Nat → Nat → Int32) (g : Nat → Nat → Int32) (L : Nat → Nat) (X : Nat → Nat → Nat) (B : Nat) (x y z : Int32) (hR : cp_R k h b n c9 M) (hT : cp_T h b T n) (hn9 : mo_B n) (hs : sm n c9 g L X) (hNx : nxB n g B) (hB : B < 2 ^ 30) : Met l yX3_through wsX3_through ({ frames := 2, cells := 0, slots := 0, locals := 47 }) (va_Pc [.ref (h 0), .int x, .int y, .int z] (mw_U D vwCl (TY k) M sz)) (va_Qi (fun r M1 => ∃ c1 g1, cp_R k h b n c1 M1 ∧ sm n c1 g1 L X ∧ R_through n g x y z r g1) (mw_B D vwCl M sz) (mw_A M sz)) 0 0 (mw_A M sz) := by
  refine mw_met (cc := cX3_through) (maxL := 6) (ret := (some .int)) (lv := [(0, .ref (h 0)), (1, .int x), (2, .int y), (3, .int z)]) (by decide) rfl (Nat.le_of_ble_eq_true rfl) rfl ?_
  intro p e s m below meth c ls hE hr hlocks hin hml hsz hP hS hl
  subst hsz
  have hx := hE.1
  have hb := hE.2.1
  have hA : ∀ q, s.heap.size ≤ q → mw_A M s.heap.size q := fun q h => Or.inr h
  obtain ⟨hb0, hb1, hb2, hb3⟩ := id hn9
  obtain ⟨⟨f0, f1, f2, f3, f4⟩, fP, fO, fX⟩ := id hR
  obtain ⟨sP, sO, sX, sG, sL⟩ := id hs
  refine lv_aload_n hx hb dX3_through_0 rfl (lv_at hl 0 rfl) ?_
  refine lv_iload_n hx hb dX3_through_1 rfl (lv_at hl 1 rfl) ?_
  refine mw_callq hP hS hA (va_runV (As := [.int x]) (rest := []) ⟨hx, hb, hml, hE.2.2.2.1, hE.2.2.1⟩ (tX3_orderAt l D k _ _ h (fun j => nI (n (j - 4))) (n 1) (b 3) x hb1 f0 f2) (cwV 1 hE.2.2.1 gX3_through_X3_orderAt rfl rfl rfl (by decide +kernel) ⟨(Nat.le_of_ble_eq_true rfl), (Nat.le_of_ble_eq_true rfl)⟩) (mw_preV hE hP (ci := 4) rfl rfl f0 [.int x]) rfl rfl hl.1 rfl (lv_room (Nat.le_of_ble_eq_true rfl)) dX3_through_2 ⟨(Nat.le_of_ble_eq_true rfl), (Nat.le_of_ble_eq_true rfl)⟩) (fun r_1 M1 H locs hw hP hS => ?_)
  obtain ⟨hM1, hw⟩ := hw
  rw [hM1] at hP
  rcases hw with ⟨oo, hoo, rfl, rfl⟩ | ⟨hq_2, rfl⟩
  · skip
    refine lv_astore (lv' := [(4, .ref (b 3 oo)), (0, .ref (h 0)), (1, .int (nI oo)), (2, .int y), (3, .int z)]) hx hb dX3_through_5 hl (by decide) rfl (fun ls hl => ?_)
    refine lv_aload hx hb dX3_through_7 (lv_at hl 0 rfl) ?_
    refine lv_ifnonnull (tgt := 15) hx hb dX3_through_9 (by decide) ?_
    refine lv_aload hx hb dX3_through_15 (lv_at hl 0 rfl) ?_
    refine mw_get (v := .int (c9 6 oo 0)) (ci := 1) (T := TX0) (N := 4) (C := RX0) hE iX3_through_X0 hP ((fO oo hoo).1) rfl 0 (by decide) (hE.2.2.1 _ mX3_through_f93) rfl rfl dX3_through_17 ?_
    refine lv_iload_n hx hb dX3_through_20 rfl (lv_at hl 3 rfl) ?_
    refine lv_iload_n hx hb dX3_through_21 rfl (lv_at hl 4 rfl) ?_
    refine mw_calli hP hS hA (va_runS (As := [.int (c9 6 oo 0), .int y, .int z]) (rest := []) ⟨hx, hb, hml, hE.2.2.2.1, hE.2.2.1⟩ (tX3_alphabetRefusal l D k _ _ (c9 6 oo 0) y z) (va_cwS 3 hE.2.2.1 gX3_through_X3_alphabetRefusal rfl rfl rfl (by decide +kernel) ⟨(Nat.le_of_ble_eq_true rfl), (Nat.le_of_ble_eq_true rfl)⟩) (mw_preS hE hP [.int (c9 6 oo 0), .int y, .int z]) rfl rfl hl.1 rfl (lv_room (Nat.le_of_ble_eq_true rfl)) dX3_through_22 ⟨(Nat.le_of_ble_eq_true rfl), (Nat.le_of_ble_eq_true rfl)⟩) (fun r_3 M1 H locs hw hP hS => ?_)
    obtain ⟨hM1, hw⟩ := hw
    rw [hM1] at hP
    rcases hw with ⟨q2, rfl⟩ | ⟨⟨v1, v2⟩, ⟨q3, rfl⟩ | ⟨q3, rfl⟩⟩
    · skip
      refine lv_istore (lv' := [(5, .int (-4)), (4, .ref (b 3 oo)), (0, .ref (h 0)), (1, .int (nI oo)), (2, .int y), (3, .int z)]) hx hb dX3_through_25 hl (by decide) rfl (fun ls hl => ?_)
      refine lv_iload hx hb dX3_through_27 (lv_at hl 0 rfl) ?_
      refine lv_if_eq (tgt := 35) hx hb dX3_through_29 (by decide) (fun c9 => absurd c9 (by decide)) (fun _ => ?_)
      refine lv_iload hx hb dX3_through_32 (lv_at hl 0 rfl) ?_
      exact mw_iret (v := (-4)) hE hr hlocks hP hS dX3_through_34 (⟨c9, g, hR, hs, Or.inl ⟨Or.inr (Or.inl ⟨vp_in_nI hoo (by omega), q2, rfl⟩), by decide, rfl⟩⟩)
    · obtain ⟨i, hi, rfl⟩ := vp_in_of v1 (by omega)
      obtain ⟨j, hj, rfl⟩ := vp_in_of v2 (by omega)
      have h42 : ¬ g 4 oo = nI 2 := by intro hh; rw [(sO oo hoo).1, bz_t hh] at q3; exact absurd q3 (by decide)
      refine lv_istore (lv' := [(5, .int (-5)), (4, .ref (b 3 oo)), (0, .ref (h 0)), (1, .int (nI oo)), (2, .int (nI i)), (3, .int (nI j))]) hx hb dX3_through_25 hl (by decide) rfl (fun ls hl => ?_)
      refine lv_iload hx hb dX3_through_27 (lv_at hl 0 rfl) ?_
      refine lv_if_eq (tgt := 35) hx hb dX3_through_29 (by decide) (fun c9 => absurd c9 (by decide)) (fun _ => ?_)
      refine lv_iload hx hb dX3_through_32 (lv_at hl 0 rfl) ?_
      exact mw_iret (v := (-5)) hE hr hlocks hP hS dX3_through_34 (⟨c9, g, hR, hs, Or.inl ⟨Or.inr (Or.inr (Or.inl ⟨oo, i, j, hoo, hi, hj, rfl, rfl, rfl, h42, rfl⟩)), by decide, rfl⟩⟩)
    · obtain ⟨i, hi, rfl⟩ := vp_in_of v1 (by omega)
      obtain ⟨j, hj, rfl⟩ := vp_in_of v2 (by omega)
      have h42 : g 4 oo = nI 2 := by rcases Classical.em (g 4 oo = nI 2) with hh | hh; exact hh; exact absurd ((sO oo hoo).1.trans (bz_f hh)) q3
      refine lv_istore (lv' := [(5, .int 0), (4, .ref (b 3 oo)), (0, .ref (h 0)), (1, .int (nI oo)), (2, .int (nI i)), (3, .int (nI j))]) hx hb dX3_through_25 hl (by decide) rfl (fun ls hl => ?_)
      refine lv_iload hx hb dX3_through_27 (lv_at hl 0 rfl) ?_
      refine lv_if_eq (tgt := 35) hx hb dX3_through_29 (by decide) (fun _ => ?_) (fun c9 => absurd (by decide) c9)
      refine lv_aload hx hb dX3_through_35 (lv_at hl 1 rfl) ?_
      refine lv_iload_n hx hb dX3_through_37 rfl (lv_at hl 4 rfl) ?_
      refine lv_iload_n hx hb dX3_through_38 rfl (lv_at hl 5 rfl) ?_
      refine mw_calli hP hS hA (va_runV (As := [.int (nI i), .int (nI j)]) (rest := []) ⟨hx, hb, hml, hE.2.2.2.1, hE.2.2.1⟩ (tX0_addRange l D k _ _ (b 3 oo) (b 4 oo) (b 5 oo) (c9 6 oo 0) (c9 5 oo 0) (c9 3 oo) (c9 4 oo) (fO oo hoo).1 (fO oo hoo).2.1 (fO oo hoo).2.2 (tg (hT.2.2.1 oo hoo).2.1 (hT.2.2.1 oo hoo).2.2 (by simp)) i j hi hj) (cwV 2 hE.2.2.1 gX3_through_X0_addRange rfl rfl rfl (by decide +kernel) ⟨(Nat.le_of_ble_eq_true rfl), (Nat.le_of_ble_eq_true rfl)⟩) (mw_preV hE hP (ci := 1) rfl rfl ((fO oo hoo).1) [.int (nI i), .int (nI j)]) rfl rfl hl.1 rfl (lv_room (Nat.le_of_ble_eq_true rfl)) dX3_through_39 ⟨(Nat.le_of_ble_eq_true rfl), (Nat.le_of_ble_eq_true rfl)⟩) (fun r_7 M1 H locs hw hP hS => ?_)
      obtain ⟨up, hup, hw⟩ := hw
      rcases hw with ⟨q5, rfl, hM1⟩ | ⟨q5, rfl, w1, w2, w4, w3⟩
      · rw [hM1] at hP
        refine lv_if_eq (tgt := 56) hx hb dX3_through_42 (by decide) (fun _ => ?_) (fun c9 => absurd (by decide) c9)
        refine lv_iconst (v := 0) hx hb dX3_through_56 (by decide) ?_
        exact mw_iret (v := 0) hE hr hlocks hP hS dX3_through_57 (⟨c9, g, hR, hs, Or.inr ⟨oo, i, j, up, hoo, hi, hj, rfl, rfl, rfl, h42, hup, Or.inl ⟨thr_ex (sO oo hoo).2.2 h42 hup hi hj q5, rfl, rfl⟩⟩⟩)
      · skip
        refine lv_if_eq (tgt := 56) hx hb dX3_through_42 (by decide) (fun c9 => absurd c9 (by decide)) (fun _ => ?_)
        refine lv_iload_n hx hb dX3_through_45 rfl (lv_at hl 5 rfl) ?_
        refine lv_iload_n hx hb dX3_through_46 rfl (lv_at hl 4 rfl) ?_
        refine lv_isub hx hb dX3_through_47 ?_
        refine va_mabs hx hb (by rw [hml]; exact hl.1.symm) hE.2.2.2.1 (hE.2.2.1 _ mX3_through_ml108) (hE.2.2.1 _ mX3_through_stLibMathabsname) (hE.2.2.1 _ mX3_through_inijavalangMath) (hE.2.2.1 _ mX3_through_mathabs) (by decide) (Nat.le_of_ble_eq_true rfl) (by decide) (by decide) dX3_through_48 ?_
        refine rw_i (v := nI (tcn up i j - 1)) (thr_abs hup hi hj) ?_
        refine lv_iconst (v := 1) hx hb dX3_through_51 (by decide) ?_
        refine lv_iadd hx hb dX3_through_52 ?_
        refine rw_i (v := nI (tcn up i j)) (by rw [nI_1]; exact congrArg nI (Nat.sub_add_cancel (thr_pos up i j))) ?_
        refine lv_goto (tgt := 57) hx hb dX3_through_53 (by decide) ?_
        exact mw_iret (v := nI (tcn up i j)) hE hr hlocks hP hS dX3_through_57 (⟨_, _, cp_ord hR hT hoo w4 w2 w1 (fun x h1 h2 h3 => w3 x h1 h2 h3), sm_thr hs hoo hi hj h42 hup hNx hB, Or.inr ⟨oo, i, j, up, hoo, hi, hj, rfl, rfl, rfl, h42, hup, Or.inr ⟨thr_all (sO oo hoo).2.2 h42 hup hi hj q5, rfl, rfl⟩⟩⟩)
  · skip
    refine lv_astoreN (lv' := [(4, .null), (0, .ref (h 0)), (1, .int x), (2, .int y), (3, .int z)]) hx hb dX3_through_5 hl (by decide) rfl (fun ls hl => ?_)
    refine lv_aloadN hx hb dX3_through_7 (lv_at hl 0 rfl) ?_
    refine lv_ifnonnullN hx hb dX3_through_9 ?_
    refine lv_bipush (v := (-2)) hx hb dX3_through_12 (by decide) ?_
    exact mw_iret (v := (-2)) hE hr hlocks hP hS dX3_through_14 (⟨c9, g, hR, hs, Or.inl ⟨Or.inl ⟨hq_2, rfl⟩, by decide, rfl⟩⟩)

set_option maxRecDepth 20000 in
theorem mX3_whole_f118 : Cond.fieldLink RX3 118 "CodePages$Text" "size" "I" ∈ wsX3_whole := by decide +kernel
set_option maxRecDepth 20000 in
theorem mX3_whole_f121 : Cond.fieldLink RX3 121 "CodePages$Text" "codes" "[I" ∈ wsX3_whole := by decide +kernel
set_option maxRecDepth 20000 in
theorem mX3_whole_f75 : Cond.fieldLink RX3 75 "CodePages$Page" "substitute" "I" ∈ wsX3_whole := by decide +kernel
set_option maxRecDepth 20000 in
theorem iX3_whole_X1 : ∀ w ∈ u_ws RX1 TX1 2, w ∈ wsX3_whole := by decide +kernel
set_option maxRecDepth 20000 in
theorem iX3_whole_X2 : ∀ w ∈ u_ws RX2 TX2 2, w ∈ wsX3_whole := by decide +kernel
set_option maxHeartbeats 4000000 in
set_option maxRecDepth 100000 in
theorem tX3_whole (l : Launch) (D : va_G) (k : Nat → ClassId) (M : mw) (sz : Nat) (h : Nat → Nat) (b : Nat → Nat → Nat) (T : Nat → Nat × Nat) (n : Nat → Nat) (c9 : Nat → Nat → Nat → Int32) (g : Nat → Nat → Int32) (L : Nat → Nat) (X : Nat → Nat → Nat) (x y z : Int32) (hR : cp_R k h b n c9 M) (hT : cp_T h b T n) (hn9 : mo_B n) (hs : sm n c9 g L X) : Met l yX3_whole wsX3_whole ({ frames := 2, cells := 0, slots := 0, locals := 46 }) (va_Pc [.ref (h 0), .int x, .int y, .int z] (mw_U D vwCl (TY k) M sz)) (va_Qi (fun r M1 => ∃ n1 c1 g1 X1, cp_R k h b n1 c1 M1 ∧ sm n1 c1 g1 L X1 ∧ R_whole n g L X x y z r n1 g1) (mw_B D vwCl M sz) (mw_A M sz)) 0 0 (mw_A M sz) := by
  refine mw_met (cc := cX3_whole) (maxL := 10) (ret := (some .int)) (lv := [(0, .ref (h 0)), (1, .int x), (2, .int y), (3, .int z)]) (by decide) rfl (Nat.le_of_ble_eq_true rfl) rfl ?_
  intro p e s m below meth c ls hE hr hlocks hin hml hsz hP hS hl
  subst hsz
  have hx := hE.1
  have hb := hE.2.1
  have hA : ∀ q, s.heap.size ≤ q → mw_A M s.heap.size q := fun q h => Or.inr h
  obtain ⟨Q, hQ⟩ : ∃ Q : State → Prop, Q = MQ below (va_Qi (fun r M1 => ∃ n1 c1 g1 X1, cp_R k h b n1 c1 M1 ∧ sm n1 c1 g1 L X1 ∧ R_whole n g L X x y z r n1 g1) (mw_B D vwCl M s.heap.size) (mw_A M s.heap.size)) ([.ref (h 0), .int x, .int y, .int z] : List Value).toArray s 0 0 (mw_A M s.heap.size) := ⟨_, rfl⟩
  rw [← hQ]
  obtain ⟨hb0, hb1, hb2, hb3⟩ := id hn9
  obtain ⟨⟨f0, f1, f2, f3, f4⟩, fP, fO, fX⟩ := id hR
  obtain ⟨sP, sO, sX, sG, sL⟩ := id hs
  refine lv_aload_n hx hb dX3_whole_0 rfl (lv_at hl 0 rfl) ?_
  refine lv_iload_n hx hb dX3_whole_1 rfl (lv_at hl 1 rfl) ?_
  refine mw_callq hP hS hA (va_runV (As := [.int x]) (rest := []) ⟨hx, hb, hml, hE.2.2.2.1, hE.2.2.1⟩ (tX3_textAt l D k _ _ h (fun j => nI (n (j - 4))) (n 2) (b 6) x hb2 f0 f3) (cwV 1 hE.2.2.1 gX3_whole_X3_textAt rfl rfl rfl (by decide +kernel) ⟨(Nat.le_of_ble_eq_true rfl), (Nat.le_of_ble_eq_true rfl)⟩) (mw_preV hE hP (ci := 4) rfl rfl f0 [.int x]) rfl rfl hl.1 rfl (lv_room (Nat.le_of_ble_eq_true rfl)) dX3_whole_2 ⟨(Nat.le_of_ble_eq_true rfl), (Nat.le_of_ble_eq_true rfl)⟩) (fun r_1 M1 H locs hw hP hS => ?_)
  obtain ⟨hM1, hw⟩ := hw
  rw [hM1] at hP
  rcases hw with ⟨t, ht, rfl, rfl⟩ | ⟨hq_2, rfl⟩
  · skip
    refine lv_astore (lv' := [(4, .ref (b 6 t)), (0, .ref (h 0)), (1, .int (nI t)), (2, .int y), (3, .int z)]) hx hb dX3_whole_5 hl (by decide) rfl (fun ls hl => ?_)
    refine lv_aload_n hx hb dX3_whole_7 rfl (lv_at hl 1 rfl) ?_
    refine lv_iload_n hx hb dX3_whole_8 rfl (lv_at hl 3 rfl) ?_
    refine mw_callq hP hS hA (va_runV (As := [.int y]) (rest := []) ⟨hx, hb, hml, hE.2.2.2.1, hE.2.2.1⟩ (tX3_pageAt l D k _ _ h (fun j => nI (n (j - 4))) (n 0) (b 1) y hb0 f0 f1) (cwV 1 hE.2.2.1 gX3_whole_X3_pageAt rfl rfl rfl (by decide +kernel) ⟨(Nat.le_of_ble_eq_true rfl), (Nat.le_of_ble_eq_true rfl)⟩) (mw_preV hE hP (ci := 4) rfl rfl f0 [.int y]) rfl rfl hl.1 rfl (lv_room (Nat.le_of_ble_eq_true rfl)) dX3_whole_9 ⟨(Nat.le_of_ble_eq_true rfl), (Nat.le_of_ble_eq_true rfl)⟩) (fun r_3 M1 H locs hw hP hS => ?_)
    obtain ⟨hM1, hw⟩ := hw
    rw [hM1] at hP
    rcases hw with ⟨pp, hpp, rfl, rfl⟩ | ⟨hq_4, rfl⟩
    · skip
      refine lv_astore (lv' := [(5, .ref (b 1 pp)), (4, .ref (b 6 t)), (0, .ref (h 0)), (1, .int (nI t)), (2, .int (nI pp)), (3, .int z)]) hx hb dX3_whole_12 hl (by decide) rfl (fun ls hl => ?_)
      refine lv_aload_n hx hb dX3_whole_14 rfl (lv_at hl 2 rfl) ?_
      refine lv_iload_n hx hb dX3_whole_15 rfl (lv_at hl 5 rfl) ?_
      refine mw_callq hP hS hA (va_runV (As := [.int z]) (rest := []) ⟨hx, hb, hml, hE.2.2.2.1, hE.2.2.1⟩ (tX3_pageAt l D k _ _ h (fun j => nI (n (j - 4))) (n 0) (b 1) z hb0 f0 f1) (cwV 1 hE.2.2.1 gX3_whole_X3_pageAt rfl rfl rfl (by decide +kernel) ⟨(Nat.le_of_ble_eq_true rfl), (Nat.le_of_ble_eq_true rfl)⟩) (mw_preV hE hP (ci := 4) rfl rfl f0 [.int z]) rfl rfl hl.1 rfl (lv_room (Nat.le_of_ble_eq_true rfl)) dX3_whole_16 ⟨(Nat.le_of_ble_eq_true rfl), (Nat.le_of_ble_eq_true rfl)⟩) (fun r_5 M1 H locs hw hP hS => ?_)
      obtain ⟨hM1, hw⟩ := hw
      rw [hM1] at hP
      rcases hw with ⟨qq, hqq, rfl, rfl⟩ | ⟨hq_6, rfl⟩
      · skip
        refine lv_astore (lv' := [(6, .ref (b 1 qq)), (5, .ref (b 1 pp)), (4, .ref (b 6 t)), (0, .ref (h 0)), (1, .int (nI t)), (2, .int (nI pp)), (3, .int (nI qq))]) hx hb dX3_whole_19 hl (by decide) rfl (fun ls hl => ?_)
        refine lv_aload hx hb dX3_whole_21 (lv_at hl 2 rfl) ?_
        refine lv_ifnull hx hb dX3_whole_23 ?_
        refine lv_aload hx hb dX3_whole_26 (lv_at hl 1 rfl) ?_
        refine lv_ifnull hx hb dX3_whole_28 ?_
        refine lv_aload hx hb dX3_whole_31 (lv_at hl 0 rfl) ?_
        refine lv_ifnonnull (tgt := 39) hx hb dX3_whole_33 (by decide) ?_
        refine lv_iconst (v := 0) hx hb dX3_whole_39 (by decide) ?_
        refine lv_istore (lv' := [(7, .int 0), (6, .ref (b 1 qq)), (5, .ref (b 1 pp)), (4, .ref (b 6 t)), (0, .ref (h 0)), (1, .int (nI t)), (2, .int (nI pp)), (3, .int (nI qq))]) hx hb dX3_whole_40 hl (by decide) rfl (fun ls hl => ?_)
        refine lv_iconst (v := 0) hx hb dX3_whole_42 (by decide) ?_
        refine lv_istore (lv' := [(8, .int 0), (7, .int 0), (6, .ref (b 1 qq)), (5, .ref (b 1 pp)), (4, .ref (b 6 t)), (0, .ref (h 0)), (1, .int (nI t)), (2, .int (nI pp)), (3, .int (nI qq))]) hx hb dX3_whole_43 hl (by decide) rfl (fun ls hl => ?_)
        have hL4 := (sG t ht).1
        have lp_45 : ∀ (fu : Nat) (kk : Nat) (n1 : Nat → Nat) (c1 : Nat → Nat → Nat → Int32) (g1 : Nat → Nat → Int32) (dd : Nat) (X1 : Nat → Nat → Nat) (M1 : mw), (kk ≤ L t) → (cp_R k h b n1 c1 M1) → (cp_T h b T n1) → (mo_B n1) → (sm n1 c1 g1 L X1) → (R_wh n g X t pp qq kk n1 g1 dd) → (wh_K n g t kk n1 g1) → (n1 2 = n 2) → (∀ q, kk ≤ q → X1 t q = X t q) → L t - kk < fu → ∀ (H : Heap) (locs : List Loc), mw_Q (mw_A M s.heap.size) D vwCl M1 H → va_S (mw_A M s.heap.size) s.heap H locs → ∀ ls : Array Slot, lv_has ls 10 [(0, .ref (h 0)), (4, .ref (b 6 t)), (5, .ref (b 1 pp)), (6, .ref (b 1 qq)), (7, .int (nI dd)), (8, .int (nI kk))] → W p l e ({ frames := 2, cells := 0, slots := 0, locals := 46 } : Room) s m ([.ref (h 0), .int (nI t), .int (nI pp), .int (nI qq)] : List Value).toArray below meth c H locs 0 0 Q (F0 m 45 ls []) := by
          intro fu
          induction fu with
          | zero => intro kk n1 c1 g1 dd X1 M1 hkk hR1 hT1 hB1 hs1 hW hK hn2 hXk hn; exact absurd hn (Nat.not_lt_zero _)
          | succ fu ih_45 =>
            intro kk n1 c1 g1 dd X1 M1 hkk hR1 hT1 hB1 hs1 hW hK hn2 hXk hn H locs hP hS ls hl
            have ht1 : t < n1 2 := by rw [hn2]; exact ht
            refine lv_iload hx hb dX3_whole_45 (lv_at hl 5 rfl) ?_
            refine lv_aload hx hb dX3_whole_47 (lv_at hl 1 rfl) ?_
            refine mw_get (v := .int (c1 8 t 0)) (ci := 3) (T := TX2) (N := 2) (C := RX2) hE iX3_whole_X2 hP ((hR1.2.2.2 t ht1).1) rfl 1 (by decide) (hE.2.2.1 _ mX3_whole_f118) rfl rfl dX3_whole_49 ?_
            refine rw_i (v := nI (L t)) ((hs1.2.2.1 t ht1).1) ?_
            refine lv_icmp_ge (tgt := 105) hx hb dX3_whole_52 (by decide) (fun c_52 => ?_) (fun c_52 => ?_)
            · have k_52 : (L t) ≤ kk := nn_le (a := (L t)) (b := kk) c_52 (by omega) (by omega)
              refine lv_iload hx hb dX3_whole_105 (lv_at hl 4 rfl) ?_
              rw [hQ]
              exact mw_iret (v := nI dd) hE hr hlocks hP hS dX3_whole_107 (⟨n1, c1, g1, X1, hR1, hs1, Or.inr ⟨t, pp, qq, dd, ht, hpp, hqq, rfl, rfl, rfl, rfl, by rw [show L t = kk by omega]; exact hW⟩⟩)
            · have k_52 : kk < (L t) := nn_nle (a := (L t)) (b := kk) c_52 (by omega) (by omega)
              refine lv_aload_n hx hb dX3_whole_55 rfl (lv_at hl 0 rfl) ?_
              refine lv_aload hx hb dX3_whole_56 (lv_at hl 1 rfl) ?_
              refine mw_get (v := .ref (b 7 t)) (ci := 3) (T := TX2) (N := 2) (C := RX2) hE iX3_whole_X2 hP ((hR1.2.2.2 t ht1).1) rfl 0 (by decide) (hE.2.2.1 _ mX3_whole_f121) rfl rfl dX3_whole_58 ?_
              refine lv_iload hx hb dX3_whole_61 (lv_at hl 5 rfl) ?_
              refine rw_iald hE hP 0 ((hR1.2.2.2 t ht1).2) rfl (by decide) dX3_whole_63 (by omega) ?_
              refine rw_i (v := nI (X t kk)) (((hs1.2.2.1 t ht1).2 kk k_52).trans (congrArg nI (hXk kk (Nat.le_refl _)))) ?_
              refine lv_aload hx hb dX3_whole_64 (lv_at hl 2 rfl) ?_
              refine lv_aload hx hb dX3_whole_66 (lv_at hl 3 rfl) ?_
              have hp1 : pp < n1 0 := by rw [hK.1]; exact hpp
              have hq1 : qq < n1 0 := by rw [hK.1]; exact hqq
              refine mw_calli hP hS hA (va_runV (As := [.int (nI (X t kk)), .ref (b 1 pp), .ref (b 1 qq)]) (rest := []) ⟨hx, hb, hml, hE.2.2.2.1, hE.2.2.1⟩ (tX3_findOrEnlist l D k _ _ h b T n1 c1 g1 L X1 (X t kk) pp qq hR1 hT1 hB1 hs1 (by rw [← hXk kk (Nat.le_refl _)]; exact ((hs1.2.2.2.1 t ht1).2.2 kk k_52).1) hp1 hq1) (cwV 3 hE.2.2.1 gX3_whole_X3_findOrEnlist rfl rfl rfl (by decide +kernel) ⟨(Nat.le_of_ble_eq_true rfl), (Nat.le_of_ble_eq_true rfl)⟩) (mw_preV hE hP (ci := 4) rfl rfl hR1.1.1 [.int (nI (X t kk)), .ref (b 1 pp), .ref (b 1 qq)]) rfl rfl hl.1 rfl (lv_room (Nat.le_of_ble_eq_true rfl)) dX3_whole_68 ⟨(Nat.le_of_ble_eq_true rfl), (Nat.le_of_ble_eq_true rfl)⟩) (fun r_8 M2 H locs hw hP hS => ?_)
              obtain ⟨n2, c2, g2, d2, hR2, hB2, hs2, hw⟩ := hw
              rcases hw with ⟨hd2, hr9, hw2⟩ | ⟨hd2, rfl, hw2⟩
              · have hT2 : cp_T h b T n2 := cp_Tn hT1 (wh_n hw2 (by decide)) (wh_n hw2 (by decide)) (wh_n hw2 (by decide))
                have hq2 : qq < n2 0 := by rw [wh_n hw2 (by decide)]; exact hq1
                have ht2 : t < n2 2 := by rw [wh_n hw2 (by decide)]; exact ht1
                obtain ⟨zz, hzz, ez⟩ := tr_code hs1.1 hq1 hw2
                subst ez
                refine lv_istore (lv' := [(9, .int (nI zz)), (0, .ref (h 0)), (4, .ref (b 6 t)), (5, .ref (b 1 pp)), (6, .ref (b 1 qq)), (7, .int (nI dd)), (8, .int (nI kk))]) hx hb dX3_whole_71 hl (by decide) rfl (fun ls hl => ?_)
                refine lv_iload hx hb dX3_whole_73 (lv_at hl 0 rfl) ?_
                refine lv_iconst (v := (-1)) hx hb dX3_whole_75 (by decide) ?_
                refine lv_icmp_ne (tgt := 89) hx hb dX3_whole_76 (by decide) (fun c_76 => ?_) (fun c_76 => absurd c_76 hr9)
                refine lv_aload hx hb dX3_whole_89 (lv_at hl 2 rfl) ?_
                refine mw_get (v := .ref (b 7 t)) (ci := 3) (T := TX2) (N := 2) (C := RX2) hE iX3_whole_X2 hP ((hR2.2.2.2 t ht2).1) rfl 0 (by decide) (hE.2.2.1 _ mX3_whole_f121) rfl rfl dX3_whole_91 ?_
                refine lv_iload hx hb dX3_whole_94 (lv_at hl 6 rfl) ?_
                refine lv_iload hx hb dX3_whole_96 (lv_at hl 0 rfl) ?_
                refine rw_iast hE hP hS 0 ((hR2.2.2.2 t ht2).2) rfl (by decide) dX3_whole_98 (by omega) (fun H locs hP hS => ?_)
                obtain ⟨M_10, eM_10⟩ : ∃ Z, Z = mw_up M2 (b 7 t) (.inl ((k 0), 40, .inl (upd (c2 7 t) kk (nI zz)))) := ⟨_, rfl⟩
                have hP : mw_Q (mw_A M s.heap.size) D vwCl M_10 H := by rw [eM_10]; exact hP
                have f_11 : M_10 (b 7 t) = some (.inl ((k 0), 40, .inl (upd (c2 7 t) kk (nI zz)))) := by rw [eM_10]; exact mw_up_s
                refine lv_iinc (v := nI (kk + 1)) (lv' := [(8, .int (nI (kk + 1))), (9, .int (nI zz)), (0, .ref (h 0)), (4, .ref (b 6 t)), (5, .ref (b 1 pp)), (6, .ref (b 1 qq)), (7, .int (nI dd))]) hx hb dX3_whole_99 hl (k := 6) rfl (nI_1 kk) (by decide) rfl (fun ls hl => ?_)
                refine lv_goto (tgt := 45) hx hb dX3_whole_102 (by decide) ?_
                subst hd2
                exact ih_45 (kk + 1) n2 (up3 c2 7 t (upd (c2 7 t) kk (nI zz))) (va_up g2 8 (upd (g2 8) (40 * t + kk) (nI zz))) (dd + 0) (va_up X1 t (va_up (X1 t) kk zz)) M_10 (by omega) (cp_cod hR2 hT2 ht2 f_11 (fun x hx => by rw [eM_10, mw_up_n hx])) (hT2) (hB2) (sm_cod hs2 ht2 hzz (by omega)) (⟨n1, g1, dd, nI zz, n2, g2, 0, hW, hw2, rfl, rfl, rfl⟩) (wh_k hK hw2 _) ((wh_n hw2 (by decide)).trans hn2) (fun q hq => by rw [va_up_self, va_up_ne _ _ (by omega)]; exact hXk q (by omega)) (by omega) H locs hP hS ls (lv_sub hl [2, 3, 4, 5, 6, 0] rfl)
              · have hT2 : cp_T h b T n2 := cp_Tn hT1 (wh_n hw2 (by decide)) (wh_n hw2 (by decide)) (wh_n hw2 (by decide))
                have hq2 : qq < n2 0 := by rw [wh_n hw2 (by decide)]; exact hq1
                have ht2 : t < n2 2 := by rw [wh_n hw2 (by decide)]; exact ht1
                obtain ⟨zz, hzz, ez⟩ := tr_code hs1.1 hq1 hw2
                rw [ez] at hw2
                refine lv_istore (lv' := [(9, .int (-1)), (0, .ref (h 0)), (4, .ref (b 6 t)), (5, .ref (b 1 pp)), (6, .ref (b 1 qq)), (7, .int (nI dd)), (8, .int (nI kk))]) hx hb dX3_whole_71 hl (by decide) rfl (fun ls hl => ?_)
                refine lv_iload hx hb dX3_whole_73 (lv_at hl 0 rfl) ?_
                refine lv_iconst (v := (-1)) hx hb dX3_whole_75 (by decide) ?_
                refine lv_icmp_ne (tgt := 89) hx hb dX3_whole_76 (by decide) (fun c9 => absurd (by decide) c9) (fun _ => ?_)
                refine lv_iinc (v := nI (dd + 1)) (lv' := [(7, .int (nI (dd + 1))), (9, .int (-1)), (0, .ref (h 0)), (4, .ref (b 6 t)), (5, .ref (b 1 pp)), (6, .ref (b 1 qq)), (8, .int (nI kk))]) hx hb dX3_whole_79 hl (k := 5) rfl (nI_1 dd) (by decide) rfl (fun ls hl => ?_)
                refine lv_aload hx hb dX3_whole_82 (lv_at hl 5 rfl) ?_
                refine mw_get (v := .int (c2 2 qq 0)) (ci := 2) (T := TX1) (N := 2) (C := RX1) hE iX3_whole_X1 hP ((hR2.2.1 qq hq2).1) rfl 1 (by decide) (hE.2.2.1 _ mX3_whole_f75) rfl rfl dX3_whole_84 ?_
                refine rw_i (v := nI zz) (by rw [(hs2.1 qq hq2).1, ← ez]; exact congrFun (wh_g hw2 (by decide)) qq) ?_
                refine lv_istore (lv' := [(9, .int (nI zz)), (7, .int (nI (dd + 1))), (0, .ref (h 0)), (4, .ref (b 6 t)), (5, .ref (b 1 pp)), (6, .ref (b 1 qq)), (8, .int (nI kk))]) hx hb dX3_whole_87 hl (by decide) rfl (fun ls hl => ?_)
                refine lv_aload hx hb dX3_whole_89 (lv_at hl 3 rfl) ?_
                refine mw_get (v := .ref (b 7 t)) (ci := 3) (T := TX2) (N := 2) (C := RX2) hE iX3_whole_X2 hP ((hR2.2.2.2 t ht2).1) rfl 0 (by decide) (hE.2.2.1 _ mX3_whole_f121) rfl rfl dX3_whole_91 ?_
                refine lv_iload hx hb dX3_whole_94 (lv_at hl 6 rfl) ?_
                refine lv_iload hx hb dX3_whole_96 (lv_at hl 0 rfl) ?_
                refine rw_iast hE hP hS 0 ((hR2.2.2.2 t ht2).2) rfl (by decide) dX3_whole_98 (by omega) (fun H locs hP hS => ?_)
                obtain ⟨M_13, eM_13⟩ : ∃ Z, Z = mw_up M2 (b 7 t) (.inl ((k 0), 40, .inl (upd (c2 7 t) kk (nI zz)))) := ⟨_, rfl⟩
                have hP : mw_Q (mw_A M s.heap.size) D vwCl M_13 H := by rw [eM_13]; exact hP
                have f_14 : M_13 (b 7 t) = some (.inl ((k 0), 40, .inl (upd (c2 7 t) kk (nI zz)))) := by rw [eM_13]; exact mw_up_s
                refine lv_iinc (v := nI (kk + 1)) (lv' := [(8, .int (nI (kk + 1))), (9, .int (nI zz)), (7, .int (nI (dd + 1))), (0, .ref (h 0)), (4, .ref (b 6 t)), (5, .ref (b 1 pp)), (6, .ref (b 1 qq))]) hx hb dX3_whole_99 hl (k := 6) rfl (nI_1 kk) (by decide) rfl (fun ls hl => ?_)
                refine lv_goto (tgt := 45) hx hb dX3_whole_102 (by decide) ?_
                subst hd2
                exact ih_45 (kk + 1) n2 (up3 c2 7 t (upd (c2 7 t) kk (nI zz))) (va_up g2 8 (upd (g2 8) (40 * t + kk) (nI zz))) (dd + 1) (va_up X1 t (va_up (X1 t) kk zz)) M_13 (by omega) (cp_cod hR2 hT2 ht2 f_14 (fun x hx => by rw [eM_13, mw_up_n hx])) (hT2) (hB2) (sm_cod hs2 ht2 hzz (by omega)) (⟨n1, g1, dd, nI zz, n2, g2, 1, hW, hw2, rfl, rfl, rfl⟩) (wh_k hK hw2 _) ((wh_n hw2 (by decide)).trans hn2) (fun q hq => by rw [va_up_self, va_up_ne _ _ (by omega)]; exact hXk q (by omega)) (by omega) H locs hP hS ls (lv_sub hl [3, 4, 5, 6, 2, 0] rfl)
        exact lp_45 (50) 0 n c9 g 0 X M (by omega) (hR) (hT) (hn9) (hs) (⟨rfl, rfl, rfl⟩) (⟨rfl, fun _ => rfl, fun _ _ => rfl⟩) (rfl) (fun _ _ => rfl) (by omega) _ _ hP hS ls (lv_sub hl [5, 4, 3, 2, 1, 0] rfl)
      · skip
        refine lv_astoreN (lv' := [(6, .null), (5, .ref (b 1 pp)), (4, .ref (b 6 t)), (0, .ref (h 0)), (1, .int (nI t)), (2, .int (nI pp)), (3, .int z)]) hx hb dX3_whole_19 hl (by decide) rfl (fun ls hl => ?_)
        refine lv_aload hx hb dX3_whole_21 (lv_at hl 2 rfl) ?_
        refine lv_ifnull hx hb dX3_whole_23 ?_
        refine lv_aload hx hb dX3_whole_26 (lv_at hl 1 rfl) ?_
        refine lv_ifnull hx hb dX3_whole_28 ?_
        refine lv_aloadN hx hb dX3_whole_31 (lv_at hl 0 rfl) ?_
        refine lv_ifnonnullN hx hb dX3_whole_33 ?_
        refine lv_bipush (v := (-2)) hx hb dX3_whole_36 (by decide) ?_
        rw [hQ]
        exact mw_iret (v := (-2)) hE hr hlocks hP hS dX3_whole_38 (⟨n, c9, g, X, hR, hs, Or.inl ⟨fun q => hq_6 q.2.2, rfl, rfl, rfl⟩⟩)
    · skip
      refine lv_astoreN (lv' := [(5, .null), (4, .ref (b 6 t)), (0, .ref (h 0)), (1, .int (nI t)), (2, .int y), (3, .int z)]) hx hb dX3_whole_12 hl (by decide) rfl (fun ls hl => ?_)
      refine lv_aload_n hx hb dX3_whole_14 rfl (lv_at hl 2 rfl) ?_
      refine lv_iload_n hx hb dX3_whole_15 rfl (lv_at hl 5 rfl) ?_
      refine mw_callq hP hS hA (va_runV (As := [.int z]) (rest := []) ⟨hx, hb, hml, hE.2.2.2.1, hE.2.2.1⟩ (tX3_pageAt l D k _ _ h (fun j => nI (n (j - 4))) (n 0) (b 1) z hb0 f0 f1) (cwV 1 hE.2.2.1 gX3_whole_X3_pageAt rfl rfl rfl (by decide +kernel) ⟨(Nat.le_of_ble_eq_true rfl), (Nat.le_of_ble_eq_true rfl)⟩) (mw_preV hE hP (ci := 4) rfl rfl f0 [.int z]) rfl rfl hl.1 rfl (lv_room (Nat.le_of_ble_eq_true rfl)) dX3_whole_16 ⟨(Nat.le_of_ble_eq_true rfl), (Nat.le_of_ble_eq_true rfl)⟩) (fun r_15 M1 H locs hw hP hS => ?_)
      obtain ⟨hM1, hw⟩ := hw
      rw [hM1] at hP
      rcases hw with ⟨qq, hqq, rfl, rfl⟩ | ⟨hq_16, rfl⟩
      · skip
        refine lv_astore (lv' := [(6, .ref (b 1 qq)), (5, .null), (4, .ref (b 6 t)), (0, .ref (h 0)), (1, .int (nI t)), (2, .int y), (3, .int (nI qq))]) hx hb dX3_whole_19 hl (by decide) rfl (fun ls hl => ?_)
        refine lv_aload hx hb dX3_whole_21 (lv_at hl 2 rfl) ?_
        refine lv_ifnull hx hb dX3_whole_23 ?_
        refine lv_aloadN hx hb dX3_whole_26 (lv_at hl 1 rfl) ?_
        refine lv_ifnullN (tgt := 36) hx hb dX3_whole_28 (by decide) ?_
        refine lv_bipush (v := (-2)) hx hb dX3_whole_36 (by decide) ?_
        rw [hQ]
        exact mw_iret (v := (-2)) hE hr hlocks hP hS dX3_whole_38 (⟨n, c9, g, X, hR, hs, Or.inl ⟨fun q => hq_4 q.2.1, rfl, rfl, rfl⟩⟩)
      · skip
        refine lv_astoreN (lv' := [(6, .null), (5, .null), (4, .ref (b 6 t)), (0, .ref (h 0)), (1, .int (nI t)), (2, .int y), (3, .int z)]) hx hb dX3_whole_19 hl (by decide) rfl (fun ls hl => ?_)
        refine lv_aload hx hb dX3_whole_21 (lv_at hl 2 rfl) ?_
        refine lv_ifnull hx hb dX3_whole_23 ?_
        refine lv_aloadN hx hb dX3_whole_26 (lv_at hl 1 rfl) ?_
        refine lv_ifnullN (tgt := 36) hx hb dX3_whole_28 (by decide) ?_
        refine lv_bipush (v := (-2)) hx hb dX3_whole_36 (by decide) ?_
        rw [hQ]
        exact mw_iret (v := (-2)) hE hr hlocks hP hS dX3_whole_38 (⟨n, c9, g, X, hR, hs, Or.inl ⟨fun q => hq_4 q.2.1, rfl, rfl, rfl⟩⟩)
  · skip
    refine lv_astoreN (lv' := [(4, .null), (0, .ref (h 0)), (1, .int x), (2, .int y), (3, .int z)]) hx hb dX3_whole_5 hl (by decide) rfl (fun ls hl => ?_)
    refine lv_aload_n hx hb dX3_whole_7 rfl (lv_at hl 1 rfl) ?_
    refine lv_iload_n hx hb dX3_whole_8 rfl (lv_at hl 3 rfl) ?_
    refine mw_callq hP hS hA (va_runV (As := [.int y]) (rest := []) ⟨hx, hb, hml, hE.2.2.2.1, hE.2.2.1⟩ (tX3_pageAt l D k _ _ h (fun j => nI (n (j - 4))) (n 0) (b 1) y hb0 f0 f1) (cwV 1 hE.2.2.1 gX3_whole_X3_pageAt rfl rfl rfl (by decide +kernel) ⟨(Nat.le_of_ble_eq_true rfl), (Nat.le_of_ble_eq_true rfl)⟩) (mw_preV hE hP (ci := 4) rfl rfl f0 [.int y]) rfl rfl hl.1 rfl (lv_room (Nat.le_of_ble_eq_true rfl)) dX3_whole_9 ⟨(Nat.le_of_ble_eq_true rfl), (Nat.le_of_ble_eq_true rfl)⟩) (fun r_17 M1 H locs hw hP hS => ?_)
    obtain ⟨hM1, hw⟩ := hw
    rw [hM1] at hP
    rcases hw with ⟨pp, hpp, rfl, rfl⟩ | ⟨hq_18, rfl⟩
    · skip
      refine lv_astore (lv' := [(5, .ref (b 1 pp)), (4, .null), (0, .ref (h 0)), (1, .int x), (2, .int (nI pp)), (3, .int z)]) hx hb dX3_whole_12 hl (by decide) rfl (fun ls hl => ?_)
      refine lv_aload_n hx hb dX3_whole_14 rfl (lv_at hl 2 rfl) ?_
      refine lv_iload_n hx hb dX3_whole_15 rfl (lv_at hl 5 rfl) ?_
      refine mw_callq hP hS hA (va_runV (As := [.int z]) (rest := []) ⟨hx, hb, hml, hE.2.2.2.1, hE.2.2.1⟩ (tX3_pageAt l D k _ _ h (fun j => nI (n (j - 4))) (n 0) (b 1) z hb0 f0 f1) (cwV 1 hE.2.2.1 gX3_whole_X3_pageAt rfl rfl rfl (by decide +kernel) ⟨(Nat.le_of_ble_eq_true rfl), (Nat.le_of_ble_eq_true rfl)⟩) (mw_preV hE hP (ci := 4) rfl rfl f0 [.int z]) rfl rfl hl.1 rfl (lv_room (Nat.le_of_ble_eq_true rfl)) dX3_whole_16 ⟨(Nat.le_of_ble_eq_true rfl), (Nat.le_of_ble_eq_true rfl)⟩) (fun r_19 M1 H locs hw hP hS => ?_)
      obtain ⟨hM1, hw⟩ := hw
      rw [hM1] at hP
      rcases hw with ⟨qq, hqq, rfl, rfl⟩ | ⟨hq_20, rfl⟩
      · skip
        refine lv_astore (lv' := [(6, .ref (b 1 qq)), (5, .ref (b 1 pp)), (4, .null), (0, .ref (h 0)), (1, .int x), (2, .int (nI pp)), (3, .int (nI qq))]) hx hb dX3_whole_19 hl (by decide) rfl (fun ls hl => ?_)
        refine lv_aloadN hx hb dX3_whole_21 (lv_at hl 2 rfl) ?_
        refine lv_ifnullN (tgt := 36) hx hb dX3_whole_23 (by decide) ?_
        refine lv_bipush (v := (-2)) hx hb dX3_whole_36 (by decide) ?_
        rw [hQ]
        exact mw_iret (v := (-2)) hE hr hlocks hP hS dX3_whole_38 (⟨n, c9, g, X, hR, hs, Or.inl ⟨fun q => hq_2 q.1, rfl, rfl, rfl⟩⟩)
      · skip
        refine lv_astoreN (lv' := [(6, .null), (5, .ref (b 1 pp)), (4, .null), (0, .ref (h 0)), (1, .int x), (2, .int (nI pp)), (3, .int z)]) hx hb dX3_whole_19 hl (by decide) rfl (fun ls hl => ?_)
        refine lv_aloadN hx hb dX3_whole_21 (lv_at hl 2 rfl) ?_
        refine lv_ifnullN (tgt := 36) hx hb dX3_whole_23 (by decide) ?_
        refine lv_bipush (v := (-2)) hx hb dX3_whole_36 (by decide) ?_
        rw [hQ]
        exact mw_iret (v := (-2)) hE hr hlocks hP hS dX3_whole_38 (⟨n, c9, g, X, hR, hs, Or.inl ⟨fun q => hq_2 q.1, rfl, rfl, rfl⟩⟩)
    · skip
      refine lv_astoreN (lv' := [(5, .null), (4, .null), (0, .ref (h 0)), (1, .int x), (2, .int y), (3, .int z)]) hx hb dX3_whole_12 hl (by decide) rfl (fun ls hl => ?_)
      refine lv_aload_n hx hb dX3_whole_14 rfl (lv_at hl 2 rfl) ?_
      refine lv_iload_n hx hb dX3_whole_15 rfl (lv_at hl 5 rfl) ?_
      refine mw_callq hP hS hA (va_runV (As := [.int z]) (rest := []) ⟨hx, hb, hml, hE.2.2.2.1, hE.2.2.1⟩ (tX3_pageAt l D k _ _ h (fun j => nI (n (j - 4))) (n 0) (b 1) z hb0 f0 f1) (cwV 1 hE.2.2.1 gX3_whole_X3_pageAt rfl rfl rfl (by decide +kernel) ⟨(Nat.le_of_ble_eq_true rfl), (Nat.le_of_ble_eq_true rfl)⟩) (mw_preV hE hP (ci := 4) rfl rfl f0 [.int z]) rfl rfl hl.1 rfl (lv_room (Nat.le_of_ble_eq_true rfl)) dX3_whole_16 ⟨(Nat.le_of_ble_eq_true rfl), (Nat.le_of_ble_eq_true rfl)⟩) (fun r_21 M1 H locs hw hP hS => ?_)
      obtain ⟨hM1, hw⟩ := hw
      rw [hM1] at hP
      rcases hw with ⟨qq, hqq, rfl, rfl⟩ | ⟨hq_22, rfl⟩
      · skip
        refine lv_astore (lv' := [(6, .ref (b 1 qq)), (5, .null), (4, .null), (0, .ref (h 0)), (1, .int x), (2, .int y), (3, .int (nI qq))]) hx hb dX3_whole_19 hl (by decide) rfl (fun ls hl => ?_)
        refine lv_aloadN hx hb dX3_whole_21 (lv_at hl 2 rfl) ?_
        refine lv_ifnullN (tgt := 36) hx hb dX3_whole_23 (by decide) ?_
        refine lv_bipush (v := (-2)) hx hb dX3_whole_36 (by decide) ?_
        rw [hQ]
        exact mw_iret (v := (-2)) hE hr hlocks hP hS dX3_whole_38 (⟨n, c9, g, X, hR, hs, Or.inl ⟨fun q => hq_2 q.1, rfl, rfl, rfl⟩⟩)
      · skip
        refine lv_astoreN (lv' := [(6, .null), (5, .null), (4, .null), (0, .ref (h 0)), (1, .int x), (2, .int y), (3, .int z)]) hx hb dX3_whole_19 hl (by decide) rfl (fun ls hl => ?_)
        refine lv_aloadN hx hb dX3_whole_21 (lv_at hl 2 rfl) ?_
        refine lv_ifnullN (tgt := 36) hx hb dX3_whole_23 (by decide) ?_
        refine lv_bipush (v := (-2)) hx hb dX3_whole_36 (by decide) ?_
        rw [hQ]
        exact mw_iret (v := (-2)) hE hr hlocks hP hS dX3_whole_38 (⟨n, c9, g, X, hR, hs, Or.inl ⟨fun q => hq_2 q.1, rfl, rfl, rfl⟩⟩)
