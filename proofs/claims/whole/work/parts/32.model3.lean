set_option maxRecDepth 20000 in
theorem mX4_at_f25 : Cond.fieldLink RX4 25 "CodePagesModel" "texts" "[I" ∈ wsX4_at := by decide +kernel
set_option maxRecDepth 20000 in
theorem mX4_at_f28 : Cond.fieldLink RX4 28 "CodePagesModel" "lengths" "[I" ∈ wsX4_at := by decide +kernel
set_option maxRecDepth 20000 in
theorem mX4_at_f34 : Cond.fieldLink RX4 34 "CodePagesModel" "code" "I" ∈ wsX4_at := by decide +kernel
set_option maxRecDepth 20000 in
theorem iX4_at_X4 : ∀ w ∈ u_ws RX4 TX4 14, w ∈ wsX4_at := by decide +kernel
set_option maxHeartbeats 4000000 in
set_option maxRecDepth 100000 in
theorem tX4_at (l : Launch) (D : va_G) (k : Nat → ClassId) (M : mw) (sz : Nat) (ad : Nat → Nat) (v : Nat → Int32) (g : Nat → Nat → Int32) (n : Nat → Nat) (L : Nat → Nat) (T : Nat → Nat → Nat) (x y : Int32) (hN : mo_N ad) (hV : mo_V v n) (hn9 : mo_B n) (hM : M = mo_M (k 0) ad v g) (hX : mo_X n g L T) : Met l yX4_at wsX4_at ({ frames := 1, cells := 0, slots := 0, locals := 21 }) (va_Pc [.ref (ad 0), .int x, .int y] (mw_U D vwCl (TY k) M sz)) (va_Qi (fun r M1 => ∃ v1, M1 = mo_M (k 0) ad v1 g ∧ mo_V v1 n ∧ R_at n g L x y r) (mw_B D vwCl M sz) (mw_A M sz)) 0 0 (mw_A M sz) := by
  refine mw_met (cc := cX4_at) (maxL := 3) (ret := (some .int)) (lv := [(0, .ref (ad 0)), (1, .int x), (2, .int y)]) (by decide) rfl (Nat.le_of_ble_eq_true rfl) rfl ?_
  intro p e s m below meth c ls hE hr hlocks hin hml hsz hP hS hl
  subst hsz
  have hx := hE.1
  have hb := hE.2.1
  have hA : ∀ q, s.heap.size ≤ q → mw_A M s.heap.size q := fun q h => Or.inr h
  have hP : mw_Q (mw_A M s.heap.size) D vwCl (mo_M (k 0) ad v g) s.heap := by rw [← hM]; exact hP
  obtain ⟨hb0, hb1, hb2, hb3⟩ := hn9
  refine lv_aload_n hx hb dX4_at_0 rfl (lv_at hl 0 rfl) ?_
  refine lv_iconst (v := 0) hx hb dX4_at_1 (by decide) ?_
  refine mo_put hE iX4_at_X4 hP hS 0 (by decide) mX4_at_f34 rfl rfl (by decide +kernel) rfl dX4_at_2 (fun H locs hP hS => ?_)
  refine lv_aload_n hx hb dX4_at_5 rfl (lv_at hl 0 rfl) ?_
  refine lv_iload_n hx hb dX4_at_6 rfl (lv_at hl 1 rfl) ?_
  refine mw_calli hP hS hA (va_runV (As := [.int x]) (rest := []) ⟨hx, hb, hml, hE.2.2.2.1, hE.2.2.1⟩ (tX4_isText l D k _ _ ad (va_up v 0 0) g n x hN hV ⟨hb0, hb1, hb2, hb3⟩ rfl) (cwV 1 hE.2.2.1 gX4_at_X4_isText rfl rfl rfl (by decide +kernel) ⟨(Nat.le_of_ble_eq_true rfl), (Nat.le_of_ble_eq_true rfl)⟩) (mw_preV hE hP (ci := 5) rfl rfl mo_o [.int x]) rfl rfl hl.1 rfl (lv_room (Nat.le_of_ble_eq_true rfl)) dX4_at_7 ⟨(Nat.le_of_ble_eq_true rfl), (Nat.le_of_ble_eq_true rfl)⟩) (fun r_1 M1 H locs hw hP hS => ?_)
  obtain ⟨rfl, hw⟩ := hw
  rcases hw with ⟨hq_2, rfl⟩ | ⟨hq_2, rfl⟩
  · obtain ⟨t, ht, rfl⟩ := vp_in_of hq_2 (by omega)
    refine lv_if_eq (tgt := 41) hx hb dX4_at_10 (by decide) (fun c9 => absurd c9 (by decide)) (fun _ => ?_)
    obtain ⟨hL4, hL9, hT9⟩ := hX t ht
    refine lv_iload_n hx hb dX4_at_13 rfl (lv_at hl 2 rfl) ?_
    refine lv_if_lt (tgt := 41) hx hb dX4_at_14 (by decide) (fun c_14 => ?_) (fun c_14 => ?_)
    · refine lv_iconst (v := (-1)) hx hb dX4_at_41 (by decide) ?_
      exact mw_iret (v := (-1)) hE hr hlocks hP hS dX4_at_42 (⟨_, rfl, hV, Or.inr ⟨t, ht, rfl, Or.inl ⟨fun q => ((rw_in (n := L t) (by omega)).mp q).1 c_14, rfl⟩⟩⟩)
    · refine lv_iload_n hx hb dX4_at_17 rfl (lv_at hl 2 rfl) ?_
      refine lv_aload_n hx hb dX4_at_18 rfl (lv_at hl 0 rfl) ?_
      refine mo_get (x := .ref (ad 9)) hE iX4_at_X4 hP 9 (by decide) mX4_at_f28 rfl rfl dX4_at_19 ?_
      refine lv_iload_n hx hb dX4_at_22 rfl (lv_at hl 1 rfl) ?_
      refine mo_ld (n := 40) hE hN hP 0 9 rfl (by decide) rfl (by decide) dX4_at_23 (by omega) ?_
      refine rw_i (v := nI (L t)) hL9 ?_
      refine lv_icmp_ge (tgt := 41) hx hb dX4_at_24 (by decide) (fun c_24 => ?_) (fun c_24 => ?_)
      · refine lv_iconst (v := (-1)) hx hb dX4_at_41 (by decide) ?_
        exact mw_iret (v := (-1)) hE hr hlocks hP hS dX4_at_42 (⟨_, rfl, hV, Or.inr ⟨t, ht, rfl, Or.inl ⟨fun q => ((rw_in (n := L t) (by omega)).mp q).2 c_24, rfl⟩⟩⟩)
      · obtain ⟨j, hj, rfl⟩ := vp_in_of ((rw_in (n := L t) (by omega)).mpr ⟨c_14, c_24⟩) (by omega)
        refine lv_aload_n hx hb dX4_at_27 rfl (lv_at hl 0 rfl) ?_
        refine mo_get (x := .ref (ad 8)) hE iX4_at_X4 hP 8 (by decide) mX4_at_f25 rfl rfl dX4_at_28 ?_
        refine lv_bipush (v := nI 40) hx hb dX4_at_31 (by decide) ?_
        refine lv_iload_n hx hb dX4_at_33 rfl (lv_at hl 1 rfl) ?_
        refine lv_imul hx hb dX4_at_34 ?_
        refine rw_i (v := nI (40 * t)) (pk_mul _ _) ?_
        refine lv_iload_n hx hb dX4_at_35 rfl (lv_at hl 2 rfl) ?_
        refine lv_iadd hx hb dX4_at_36 ?_
        refine rw_i (v := nI ((40 * t) + j)) (nI_add _ _) ?_
        refine mo_ld (n := 1600) hE hN hP 0 8 rfl (by decide) rfl (by decide) dX4_at_37 (by omega) ?_
        refine lv_goto (tgt := 42) hx hb dX4_at_38 (by decide) ?_
        exact mw_iret (v := g 8 ((40 * t) + j)) hE hr hlocks hP hS dX4_at_42 (⟨_, rfl, hV, Or.inr ⟨t, ht, rfl, Or.inr ⟨j, hj, rfl, rfl⟩⟩⟩)
  · refine lv_if_eq (tgt := 41) hx hb dX4_at_10 (by decide) (fun _ => ?_) (fun c9 => absurd (by decide) c9)
    refine lv_iconst (v := (-1)) hx hb dX4_at_41 (by decide) ?_
    exact mw_iret (v := (-1)) hE hr hlocks hP hS dX4_at_42 (⟨_, rfl, hV, Or.inl ⟨hq_2, rfl⟩⟩)

set_option maxRecDepth 20000 in
theorem mX4_readAt_f25 : Cond.fieldLink RX4 25 "CodePagesModel" "texts" "[I" ∈ wsX4_readAt := by decide +kernel
set_option maxRecDepth 20000 in
theorem mX4_readAt_f28 : Cond.fieldLink RX4 28 "CodePagesModel" "lengths" "[I" ∈ wsX4_readAt := by decide +kernel
set_option maxRecDepth 20000 in
theorem iX4_readAt_X4 : ∀ w ∈ u_ws RX4 TX4 14, w ∈ wsX4_readAt := by decide +kernel
set_option maxHeartbeats 4000000 in
set_option maxRecDepth 100000 in
theorem tX4_readAt (l : Launch) (D : va_G) (k : Nat → ClassId) (M : mw) (sz : Nat) (ad : Nat → Nat) (v : Nat → Int32) (g : Nat → Nat → Int32) (n : Nat → Nat) (L : Nat → Nat) (T : Nat → Nat → Nat) (t kk : Nat) (hN : mo_N ad) (hV : mo_V v n) (hn9 : mo_B n) (hM : M = mo_M (k 0) ad v g) (hX : mo_X n g L T) (ht : t < n 2) (hkk : kk < 40) : Met l yX4_readAt wsX4_readAt ({ frames := 0, cells := 0, slots := 0, locals := 0 }) (va_Pc [.ref (ad 0), .int (nI t), .int (nI kk)] (mw_U D vwCl (TY k) M sz)) (va_Qi (fun r M1 => M1 = mo_M (k 0) ad v g ∧ r = nI (rdn L T t kk)) (mw_B D vwCl M sz) (mw_A M sz)) 0 0 (mw_A M sz) := by
  refine mw_met (cc := cX4_readAt) (maxL := 3) (ret := (some .int)) (lv := [(0, .ref (ad 0)), (1, .int (nI t)), (2, .int (nI kk))]) (by decide) rfl (Nat.le_of_ble_eq_true rfl) rfl ?_
  intro p e s m below meth c ls hE hr hlocks hin hml hsz hP hS hl
  subst hsz
  have hx := hE.1
  have hb := hE.2.1
  have hA : ∀ q, s.heap.size ≤ q → mw_A M s.heap.size q := fun q h => Or.inr h
  have hP : mw_Q (mw_A M s.heap.size) D vwCl (mo_M (k 0) ad v g) s.heap := by rw [← hM]; exact hP
  obtain ⟨hb0, hb1, hb2, hb3⟩ := hn9
  obtain ⟨hL4, hL9, hT9⟩ := hX t ht
  refine lv_iload_n hx hb dX4_readAt_0 rfl (lv_at hl 2 rfl) ?_
  refine lv_aload_n hx hb dX4_readAt_1 rfl (lv_at hl 0 rfl) ?_
  refine mo_get (x := .ref (ad 9)) hE iX4_readAt_X4 hP 9 (by decide) mX4_readAt_f28 rfl rfl dX4_readAt_2 ?_
  refine lv_iload_n hx hb dX4_readAt_5 rfl (lv_at hl 1 rfl) ?_
  refine mo_ld (n := 40) hE hN hP 0 9 rfl (by decide) rfl (by decide) dX4_readAt_6 (by omega) ?_
  refine rw_i (v := nI (L t)) hL9 ?_
  refine lv_icmp_ge (tgt := 24) hx hb dX4_readAt_7 (by decide) (fun c_7 => ?_) (fun c_7 => ?_)
  · have k_7 : (L t) ≤ kk := nn_le (a := (L t)) (b := kk) c_7 (by omega) (by omega)
    refine lv_bipush (v := nI 32) hx hb dX4_readAt_24 (by decide) ?_
    exact mw_iret (v := nI 32) hE hr hlocks hP hS dX4_readAt_26 (⟨rfl, by unfold rdn; rw [if_neg (by omega)]⟩)
  · have k_7 : kk < (L t) := nn_nle (a := (L t)) (b := kk) c_7 (by omega) (by omega)
    refine lv_aload_n hx hb dX4_readAt_10 rfl (lv_at hl 0 rfl) ?_
    refine mo_get (x := .ref (ad 8)) hE iX4_readAt_X4 hP 8 (by decide) mX4_readAt_f25 rfl rfl dX4_readAt_11 ?_
    refine lv_bipush (v := nI 40) hx hb dX4_readAt_14 (by decide) ?_
    refine lv_iload_n hx hb dX4_readAt_16 rfl (lv_at hl 1 rfl) ?_
    refine lv_imul hx hb dX4_readAt_17 ?_
    refine rw_i (v := nI (40 * t)) (pk_mul _ _) ?_
    refine lv_iload_n hx hb dX4_readAt_18 rfl (lv_at hl 2 rfl) ?_
    refine lv_iadd hx hb dX4_readAt_19 ?_
    refine rw_i (v := nI ((40 * t) + kk)) (nI_add _ _) ?_
    refine mo_ld (n := 1600) hE hN hP 0 8 rfl (by decide) rfl (by decide) dX4_readAt_20 (by omega) ?_
    refine lv_goto (tgt := 26) hx hb dX4_readAt_21 (by decide) ?_
    exact mw_iret (v := g 8 ((40 * t) + kk)) hE hr hlocks hP hS dX4_readAt_26 (⟨rfl, by unfold rdn; rw [if_pos k_7, (hT9 kk k_7).2]⟩)

set_option maxRecDepth 20000 in
theorem mX4_refusal_f16 : Cond.fieldLink RX4 16 "CodePagesModel" "kinds" "[I" ∈ wsX4_refusal := by decide +kernel
set_option maxRecDepth 20000 in
theorem iX4_refusal_X4 : ∀ w ∈ u_ws RX4 TX4 14, w ∈ wsX4_refusal := by decide +kernel
set_option maxHeartbeats 4000000 in
set_option maxRecDepth 100000 in
theorem tX4_refusal (l : Launch) (D : va_G) (k : Nat → ClassId) (M : mw) (sz : Nat) (ad : Nat → Nat) (v : Nat → Int32) (g : Nat → Nat → Int32) (n : Nat → Nat) (x y z : Int32) (hN : mo_N ad) (hV : mo_V v n) (hn9 : mo_B n) (hM : M = mo_M (k 0) ad v g) : Met l yX4_refusal wsX4_refusal ({ frames := 1, cells := 0, slots := 0, locals := 21 }) (va_Pc [.ref (ad 0), .int x, .int y, .int z] (mw_U D vwCl (TY k) M sz)) (va_Qi (fun r M1 => M1 = mo_M (k 0) ad v g ∧ R_ref n g x y z r) (mw_B D vwCl M sz) (mw_A M sz)) 0 0 (mw_A M sz) := by
  refine mw_met (cc := cX4_refusal) (maxL := 4) (ret := (some .int)) (lv := [(0, .ref (ad 0)), (1, .int x), (2, .int y), (3, .int z)]) (by decide) rfl (Nat.le_of_ble_eq_true rfl) rfl ?_
  intro p e s m below meth c ls hE hr hlocks hin hml hsz hP hS hl
  subst hsz
  have hx := hE.1
  have hb := hE.2.1
  have hA : ∀ q, s.heap.size ≤ q → mw_A M s.heap.size q := fun q h => Or.inr h
  have hP : mw_Q (mw_A M s.heap.size) D vwCl (mo_M (k 0) ad v g) s.heap := by rw [← hM]; exact hP
  obtain ⟨hb0, hb1, hb2, hb3⟩ := hn9
  refine lv_aload_n hx hb dX4_refusal_0 rfl (lv_at hl 0 rfl) ?_
  refine lv_iload_n hx hb dX4_refusal_1 rfl (lv_at hl 1 rfl) ?_
  refine mw_calli hP hS hA (va_runV (As := [.int x]) (rest := []) ⟨hx, hb, hml, hE.2.2.2.1, hE.2.2.1⟩ (tX4_isOrder l D k _ _ ad v g n x hN hV ⟨hb0, hb1, hb2, hb3⟩ rfl) (cwV 1 hE.2.2.1 gX4_refusal_X4_isOrder rfl rfl rfl (by decide +kernel) ⟨(Nat.le_of_ble_eq_true rfl), (Nat.le_of_ble_eq_true rfl)⟩) (mw_preV hE hP (ci := 5) rfl rfl mo_o [.int x]) rfl rfl hl.1 rfl (lv_room (Nat.le_of_ble_eq_true rfl)) dX4_refusal_2 ⟨(Nat.le_of_ble_eq_true rfl), (Nat.le_of_ble_eq_true rfl)⟩) (fun r_1 M1 H locs hw hP hS => ?_)
  obtain ⟨rfl, hw⟩ := hw
  rcases hw with ⟨hq_2, rfl⟩ | ⟨hq_2, rfl⟩
  · obtain ⟨oo, hoo, rfl⟩ := vp_in_of hq_2 (by omega)
    refine lv_if_ne (tgt := 13) hx hb dX4_refusal_5 (by decide) (fun _ => ?_) (fun c9 => absurd c9 (by decide))
    refine lv_iload_n hx hb dX4_refusal_13 rfl (lv_at hl 2 rfl) ?_
    refine mw_calli hP hS hA (va_runS (As := [.int y]) (rest := []) ⟨hx, hb, hml, hE.2.2.2.1, hE.2.2.1⟩ (tX4_isCode l D k _ _ y) (va_cwS 1 hE.2.2.1 gX4_refusal_X4_isCode rfl rfl rfl (by decide +kernel) ⟨(Nat.le_of_ble_eq_true rfl), (Nat.le_of_ble_eq_true rfl)⟩) (mw_preS hE hP [.int y]) rfl rfl hl.1 rfl (lv_room (Nat.le_of_ble_eq_true rfl)) dX4_refusal_14 ⟨(Nat.le_of_ble_eq_true rfl), (Nat.le_of_ble_eq_true rfl)⟩) (fun r_4 M1 H locs hw hP hS => ?_)
    obtain ⟨rfl, hw⟩ := hw
    rcases hw with ⟨hq_5, rfl⟩ | ⟨hq_5, rfl⟩
    · obtain ⟨i, hi, rfl⟩ := vp_in_of hq_5 (by omega)
      refine lv_if_eq (tgt := 27) hx hb dX4_refusal_17 (by decide) (fun c9 => absurd c9 (by decide)) (fun _ => ?_)
      refine lv_iload_n hx hb dX4_refusal_20 rfl (lv_at hl 3 rfl) ?_
      refine mw_calli hP hS hA (va_runS (As := [.int z]) (rest := []) ⟨hx, hb, hml, hE.2.2.2.1, hE.2.2.1⟩ (tX4_isCode l D k _ _ z) (va_cwS 1 hE.2.2.1 gX4_refusal_X4_isCode rfl rfl rfl (by decide +kernel) ⟨(Nat.le_of_ble_eq_true rfl), (Nat.le_of_ble_eq_true rfl)⟩) (mw_preS hE hP [.int z]) rfl rfl hl.1 rfl (lv_room (Nat.le_of_ble_eq_true rfl)) dX4_refusal_21 ⟨(Nat.le_of_ble_eq_true rfl), (Nat.le_of_ble_eq_true rfl)⟩) (fun r_7 M1 H locs hw hP hS => ?_)
      obtain ⟨rfl, hw⟩ := hw
      rcases hw with ⟨hq_8, rfl⟩ | ⟨hq_8, rfl⟩
      · obtain ⟨j, hj, rfl⟩ := vp_in_of hq_8 (by omega)
        refine lv_if_ne (tgt := 32) hx hb dX4_refusal_24 (by decide) (fun _ => ?_) (fun c9 => absurd c9 (by decide))
        refine lv_aload_n hx hb dX4_refusal_32 rfl (lv_at hl 0 rfl) ?_
        refine mo_get (x := .ref (ad 4)) hE iX4_refusal_X4 hP 4 (by decide) mX4_refusal_f16 rfl rfl dX4_refusal_33 ?_
        refine lv_iload_n hx hb dX4_refusal_36 rfl (lv_at hl 1 rfl) ?_
        refine mo_ld (n := 12) hE hN hP 0 4 rfl (by decide) rfl (by decide) dX4_refusal_37 (by omega) ?_
        refine lv_iconst (v := nI 2) hx hb dX4_refusal_38 (by decide) ?_
        refine lv_icmp_eq (tgt := 47) hx hb dX4_refusal_39 (by decide) (fun c_39 => ?_) (fun c_39 => ?_)
        · refine lv_iconst (v := 0) hx hb dX4_refusal_47 (by decide) ?_
          exact mw_iret (v := 0) hE hr hlocks hP hS dX4_refusal_48 (⟨rfl, Or.inr (Or.inr (Or.inr ⟨oo, i, j, hoo, hi, hj, rfl, rfl, rfl, c_39, rfl⟩))⟩)
        · refine lv_bipush (v := (-5)) hx hb dX4_refusal_42 (by decide) ?_
          refine lv_goto (tgt := 48) hx hb dX4_refusal_44 (by decide) ?_
          exact mw_iret (v := (-5)) hE hr hlocks hP hS dX4_refusal_48 (⟨rfl, Or.inr (Or.inr (Or.inl ⟨oo, i, j, hoo, hi, hj, rfl, rfl, rfl, c_39, rfl⟩))⟩)
      · refine lv_if_ne (tgt := 32) hx hb dX4_refusal_24 (by decide) (fun c9 => absurd (by decide) c9) (fun _ => ?_)
        refine lv_bipush (v := (-4)) hx hb dX4_refusal_27 (by decide) ?_
        refine lv_goto (tgt := 48) hx hb dX4_refusal_29 (by decide) ?_
        exact mw_iret (v := (-4)) hE hr hlocks hP hS dX4_refusal_48 (⟨rfl, Or.inr (Or.inl ⟨vp_in_nI hoo (by omega), fun h => hq_8 h.2, rfl⟩)⟩)
    · refine lv_if_eq (tgt := 27) hx hb dX4_refusal_17 (by decide) (fun _ => ?_) (fun c9 => absurd (by decide) c9)
      refine lv_bipush (v := (-4)) hx hb dX4_refusal_27 (by decide) ?_
      refine lv_goto (tgt := 48) hx hb dX4_refusal_29 (by decide) ?_
      exact mw_iret (v := (-4)) hE hr hlocks hP hS dX4_refusal_48 (⟨rfl, Or.inr (Or.inl ⟨vp_in_nI hoo (by omega), fun h => hq_5 h.1, rfl⟩)⟩)
  · refine lv_if_ne (tgt := 13) hx hb dX4_refusal_5 (by decide) (fun c9 => absurd (by decide) c9) (fun _ => ?_)
    refine lv_bipush (v := (-2)) hx hb dX4_refusal_8 (by decide) ?_
    refine lv_goto (tgt := 48) hx hb dX4_refusal_10 (by decide) ?_
    exact mw_iret (v := (-2)) hE hr hlocks hP hS dX4_refusal_48 (⟨rfl, Or.inl ⟨hq_2, rfl⟩⟩)

set_option maxRecDepth 20000 in
theorem mX4_rankOf_f16 : Cond.fieldLink RX4 16 "CodePagesModel" "kinds" "[I" ∈ wsX4_rankOf := by decide +kernel
set_option maxRecDepth 20000 in
theorem mX4_rankOf_f19 : Cond.fieldLink RX4 19 "CodePagesModel" "ranks" "[I" ∈ wsX4_rankOf := by decide +kernel
set_option maxRecDepth 20000 in
theorem mX4_rankOf_f22 : Cond.fieldLink RX4 22 "CodePagesModel" "next" "[I" ∈ wsX4_rankOf := by decide +kernel
set_option maxRecDepth 20000 in
theorem iX4_rankOf_X4 : ∀ w ∈ u_ws RX4 TX4 14, w ∈ wsX4_rankOf := by decide +kernel
set_option maxHeartbeats 4000000 in
set_option maxRecDepth 100000 in
theorem tX4_rankOf (l : Launch) (D : va_G) (k : Nat → ClassId) (M : mw) (sz : Nat) (ad : Nat → Nat) (v : Nat → Int32) (g : Nat → Nat → Int32) (n : Nat → Nat) (oo cc9 : Nat) (hN : mo_N ad) (hV : mo_V v n) (hn9 : mo_B n) (hM : M = mo_M (k 0) ad v g) (hoo : oo < 12) (hc9 : cc9 < 256) : Met l yX4_rankOf wsX4_rankOf ({ frames := 0, cells := 0, slots := 0, locals := 0 }) (va_Pc [.ref (ad 0), .int (nI oo), .int (nI cc9)] (mw_U D vwCl (TY k) M sz)) (va_Qi (fun r M1 => M1 = mo_M (k 0) ad v g ∧ r = rko g oo cc9) (mw_B D vwCl M sz) (mw_A M sz)) 0 0 (mw_A M sz) := by
  refine mw_met (cc := cX4_rankOf) (maxL := 6) (ret := (some .int)) (lv := [(0, .ref (ad 0)), (1, .int (nI oo)), (2, .int (nI cc9))]) (by decide) rfl (Nat.le_of_ble_eq_true rfl) rfl ?_
  intro p e s m below meth c ls hE hr hlocks hin hml hsz hP hS hl
  subst hsz
  have hx := hE.1
  have hb := hE.2.1
  have hA : ∀ q, s.heap.size ≤ q → mw_A M s.heap.size q := fun q h => Or.inr h
  obtain ⟨Q, hQ⟩ : ∃ Q : State → Prop, Q = MQ below (va_Qi (fun r M1 => M1 = mo_M (k 0) ad v g ∧ r = rko g oo cc9) (mw_B D vwCl M s.heap.size) (mw_A M s.heap.size)) ([.ref (ad 0), .int (nI oo), .int (nI cc9)] : List Value).toArray s 0 0 (mw_A M s.heap.size) := ⟨_, rfl⟩
  rw [← hQ]
  have hP : mw_Q (mw_A M s.heap.size) D vwCl (mo_M (k 0) ad v g) s.heap := by rw [← hM]; exact hP
  obtain ⟨hb0, hb1, hb2, hb3⟩ := hn9
  refine lv_aload_n hx hb dX4_rankOf_0 rfl (lv_at hl 0 rfl) ?_
  refine mo_get (x := .ref (ad 5)) hE iX4_rankOf_X4 hP 5 (by decide) mX4_rankOf_f19 rfl rfl dX4_rankOf_1 ?_
  refine lv_sipush (v := nI 256) hx hb dX4_rankOf_4 (by decide) ?_
  refine lv_iload_n hx hb dX4_rankOf_7 rfl (lv_at hl 1 rfl) ?_
  refine lv_imul hx hb dX4_rankOf_8 ?_
  refine rw_i (v := nI (256 * oo)) (pk_mul _ _) ?_
  refine lv_iload_n hx hb dX4_rankOf_9 rfl (lv_at hl 2 rfl) ?_
  refine lv_iadd hx hb dX4_rankOf_10 ?_
  refine rw_i (v := nI ((256 * oo) + cc9)) (nI_add _ _) ?_
  refine mo_ld (n := 3072) hE hN hP 0 5 rfl (by decide) rfl (by decide) dX4_rankOf_11 (by omega) ?_
  refine lv_istore_n (lv' := [(3, .int (g 5 ((256 * oo) + cc9))), (0, .ref (ad 0)), (1, .int (nI oo)), (2, .int (nI cc9))]) hx hb dX4_rankOf_12 rfl hl (by decide) rfl (fun ls hl => ?_)
  refine lv_aload_n hx hb dX4_rankOf_13 rfl (lv_at hl 1 rfl) ?_
  refine mo_get (x := .ref (ad 4)) hE iX4_rankOf_X4 hP 4 (by decide) mX4_rankOf_f16 rfl rfl dX4_rankOf_14 ?_
  refine lv_iload_n hx hb dX4_rankOf_17 rfl (lv_at hl 2 rfl) ?_
  refine mo_ld (n := 12) hE hN hP 0 4 rfl (by decide) rfl (by decide) dX4_rankOf_18 (by omega) ?_
  refine lv_iconst (v := nI 2) hx hb dX4_rankOf_19 (by decide) ?_
  refine lv_icmp_ne (tgt := 28) hx hb dX4_rankOf_20 (by decide) (fun c_20 => ?_) (fun c_20 => ?_)
  · refine lv_iload_n hx hb dX4_rankOf_28 rfl (lv_at hl 0 rfl) ?_
    rw [hQ]
    exact mw_iret (v := g 5 ((256 * oo) + cc9)) hE hr hlocks hP hS dX4_rankOf_29 (⟨rfl, by unfold rko; rw [if_neg (fun h => c_20 h.1)]⟩)
  · refine lv_iload_n hx hb dX4_rankOf_23 rfl (lv_at hl 0 rfl) ?_
    refine lv_iconst (v := (-1)) hx hb dX4_rankOf_24 (by decide) ?_
    refine lv_icmp_eq (tgt := 30) hx hb dX4_rankOf_25 (by decide) (fun c_25 => ?_) (fun c_25 => ?_)
    · refine lv_aload_n hx hb dX4_rankOf_30 rfl (lv_at hl 1 rfl) ?_
      refine mo_get (x := .ref (ad 6)) hE iX4_rankOf_X4 hP 6 (by decide) mX4_rankOf_f22 rfl rfl dX4_rankOf_31 ?_
      refine lv_iload_n hx hb dX4_rankOf_34 rfl (lv_at hl 2 rfl) ?_
      refine mo_ld (n := 12) hE hN hP 0 6 rfl (by decide) rfl (by decide) dX4_rankOf_35 (by omega) ?_
      refine lv_istore (lv' := [(4, .int (g 6 oo)), (3, .int (g 5 ((256 * oo) + cc9))), (0, .ref (ad 0)), (1, .int (nI oo)), (2, .int (nI cc9))]) hx hb dX4_rankOf_36 hl (by decide) rfl (fun ls hl => ?_)
      refine lv_iconst (v := 0) hx hb dX4_rankOf_38 (by decide) ?_
      refine lv_istore (lv' := [(5, .int 0), (4, .int (g 6 oo)), (3, .int (g 5 ((256 * oo) + cc9))), (0, .ref (ad 0)), (1, .int (nI oo)), (2, .int (nI cc9))]) hx hb dX4_rankOf_39 hl (by decide) rfl (fun ls hl => ?_)
      have lp_41 : ∀ (fu : Nat) (d : Nat) (w : Int32), (d ≤ cc9) → (w = g 6 oo + nI (cntb (nob g oo) d)) → cc9 - d < fu → ∀ (H : Heap) (locs : List Loc), mw_Q (mw_A M s.heap.size) D vwCl (mo_M (k 0) ad v g) H → va_S (mw_A M s.heap.size) s.heap H locs → ∀ ls : Array Slot, lv_has ls 6 [(0, .ref (ad 0)), (1, .int (nI oo)), (2, .int (nI cc9)), (4, .int w), (5, .int (nI d))] → W p l e ({ frames := 0, cells := 0, slots := 0, locals := 0 } : Room) s m ([.ref (ad 0), .int (nI oo), .int (nI cc9)] : List Value).toArray below meth c H locs 0 0 Q (F0 m 41 ls []) := by
        intro fu
        induction fu with
        | zero => intro d w hd hw hn; exact absurd hn (Nat.not_lt_zero _)
        | succ fu ih_41 =>
          intro d w hd hw hn H locs hP hS ls hl
          refine lv_iload hx hb dX4_rankOf_41 (lv_at hl 4 rfl) ?_
          refine lv_iload_n hx hb dX4_rankOf_43 rfl (lv_at hl 2 rfl) ?_
          refine lv_icmp_ge (tgt := 80) hx hb dX4_rankOf_44 (by decide) (fun c_44 => ?_) (fun c_44 => ?_)
          · have k_44 : cc9 ≤ d := nn_le (a := cc9) (b := d) c_44 (by omega) (by omega)
            refine lv_iload hx hb dX4_rankOf_80 (lv_at hl 3 rfl) ?_
            rw [hQ]
            exact mw_iret (v := w) hE hr hlocks hP hS dX4_rankOf_82 (⟨rfl, by unfold rko; rw [if_pos ⟨c_20, c_25⟩, hw, show d = cc9 by omega]⟩)
          · have k_44 : d < cc9 := nn_nle (a := cc9) (b := d) c_44 (by omega) (by omega)
            refine lv_iload hx hb dX4_rankOf_47 (lv_at hl 3 rfl) ?_
            refine lv_aload_n hx hb dX4_rankOf_49 rfl (lv_at hl 0 rfl) ?_
            refine mo_get (x := .ref (ad 5)) hE iX4_rankOf_X4 hP 5 (by decide) mX4_rankOf_f19 rfl rfl dX4_rankOf_50 ?_
            refine lv_sipush (v := nI 256) hx hb dX4_rankOf_53 (by decide) ?_
            refine lv_iload_n hx hb dX4_rankOf_56 rfl (lv_at hl 1 rfl) ?_
            refine lv_imul hx hb dX4_rankOf_57 ?_
            refine rw_i (v := nI (256 * oo)) (pk_mul _ _) ?_
            refine lv_iload hx hb dX4_rankOf_58 (lv_at hl 4 rfl) ?_
            refine lv_iadd hx hb dX4_rankOf_60 ?_
            refine rw_i (v := nI ((256 * oo) + d)) (nI_add _ _) ?_
            refine mo_ld (n := 3072) hE hN hP 0 5 rfl (by decide) rfl (by decide) dX4_rankOf_61 (by omega) ?_
            refine lv_iconst (v := (-1)) hx hb dX4_rankOf_62 (by decide) ?_
            refine lv_icmp_ne (tgt := 70) hx hb dX4_rankOf_63 (by decide) (fun c_63 => ?_) (fun c_63 => ?_)
            · refine lv_iconst (v := 0) hx hb dX4_rankOf_70 (by decide) ?_
              refine lv_iadd hx hb dX4_rankOf_71 ?_
              refine rw_i (v := w) (Int32.add_zero _) ?_
              refine lv_topi (fun w1 ew1 => ?_)
              refine lv_istore (lv' := [(4, .int w1), (0, .ref (ad 0)), (1, .int (nI oo)), (2, .int (nI cc9)), (5, .int (nI d))]) hx hb dX4_rankOf_72 hl (by decide) rfl (fun ls hl => ?_)
              refine lv_iinc (v := nI (d + 1)) (lv' := [(5, .int (nI (d + 1))), (4, .int w1), (0, .ref (ad 0)), (1, .int (nI oo)), (2, .int (nI cc9))]) hx hb dX4_rankOf_74 hl (k := 4) rfl (nI_1 d) (by decide) rfl (fun ls hl => ?_)
              refine lv_goto (tgt := 41) hx hb dX4_rankOf_77 (by decide) ?_
              exact ih_41 (d + 1) w1 (by omega) (by rw [ew1, hw, cntb_f (show nob g oo d = false from decide_eq_false c_63)]) (by omega) H locs hP hS ls (lv_sub hl [2, 3, 4, 1, 0] rfl)
            · refine lv_iconst (v := 1) hx hb dX4_rankOf_66 (by decide) ?_
              refine lv_goto (tgt := 71) hx hb dX4_rankOf_67 (by decide) ?_
              refine lv_iadd hx hb dX4_rankOf_71 ?_
              refine lv_topi (fun w1 ew1 => ?_)
              refine lv_istore (lv' := [(4, .int w1), (0, .ref (ad 0)), (1, .int (nI oo)), (2, .int (nI cc9)), (5, .int (nI d))]) hx hb dX4_rankOf_72 hl (by decide) rfl (fun ls hl => ?_)
              refine lv_iinc (v := nI (d + 1)) (lv' := [(5, .int (nI (d + 1))), (4, .int w1), (0, .ref (ad 0)), (1, .int (nI oo)), (2, .int (nI cc9))]) hx hb dX4_rankOf_74 hl (k := 4) rfl (nI_1 d) (by decide) rfl (fun ls hl => ?_)
              refine lv_goto (tgt := 41) hx hb dX4_rankOf_77 (by decide) ?_
              exact ih_41 (d + 1) w1 (by omega) (by rw [ew1, hw, cntb_t (show nob g oo d = true from decide_eq_true c_63), Int32.add_assoc, nI_1]) (by omega) H locs hP hS ls (lv_sub hl [2, 3, 4, 1, 0] rfl)
      exact lp_41 (257) 0 (g 6 oo) (by omega) (by show _ = g 6 oo + nI 0; rw [nI_0, Int32.add_zero]) (by omega) _ _ hP hS ls (lv_sub hl [3, 4, 5, 1, 0] rfl)
    · refine lv_iload_n hx hb dX4_rankOf_28 rfl (lv_at hl 0 rfl) ?_
      rw [hQ]
      exact mw_iret (v := g 5 ((256 * oo) + cc9)) hE hr hlocks hP hS dX4_rankOf_29 (⟨rfl, by unfold rko; rw [if_neg (fun h => c_25 h.2)]⟩)

set_option maxRecDepth 20000 in
theorem mX4_rank_f34 : Cond.fieldLink RX4 34 "CodePagesModel" "code" "I" ∈ wsX4_rank := by decide +kernel
set_option maxRecDepth 20000 in
theorem iX4_rank_X4 : ∀ w ∈ u_ws RX4 TX4 14, w ∈ wsX4_rank := by decide +kernel
set_option maxHeartbeats 4000000 in
set_option maxRecDepth 100000 in
theorem tX4_rank (l : Launch) (D : va_G) (k : Nat → ClassId) (M : mw) (sz : Nat) (ad : Nat → Nat) (v : Nat → Int32) (g : Nat → Nat → Int32) (n : Nat → Nat) (x y : Int32) (hN : mo_N ad) (hV : mo_V v n) (hn9 : mo_B n) (hM : M = mo_M (k 0) ad v g) : Met l yX4_rank wsX4_rank ({ frames := 1, cells := 0, slots := 0, locals := 25 }) (va_Pc [.ref (ad 0), .int x, .int y] (mw_U D vwCl (TY k) M sz)) (va_Qi (fun r M1 => ∃ v1, M1 = mo_M (k 0) ad v1 g ∧ mo_V v1 n ∧ R_rank n g x y r) (mw_B D vwCl M sz) (mw_A M sz)) 0 0 (mw_A M sz) := by
  refine mw_met (cc := cX4_rank) (maxL := 3) (ret := (some .int)) (lv := [(0, .ref (ad 0)), (1, .int x), (2, .int y)]) (by decide) rfl (Nat.le_of_ble_eq_true rfl) rfl ?_
  intro p e s m below meth c ls hE hr hlocks hin hml hsz hP hS hl
  subst hsz
  have hx := hE.1
  have hb := hE.2.1
  have hA : ∀ q, s.heap.size ≤ q → mw_A M s.heap.size q := fun q h => Or.inr h
  have hP : mw_Q (mw_A M s.heap.size) D vwCl (mo_M (k 0) ad v g) s.heap := by rw [← hM]; exact hP
  obtain ⟨hb0, hb1, hb2, hb3⟩ := hn9
  refine lv_aload_n hx hb dX4_rank_0 rfl (lv_at hl 0 rfl) ?_
  refine lv_iconst (v := 0) hx hb dX4_rank_1 (by decide) ?_
  refine mo_put hE iX4_rank_X4 hP hS 0 (by decide) mX4_rank_f34 rfl rfl (by decide +kernel) rfl dX4_rank_2 (fun H locs hP hS => ?_)
  refine lv_aload_n hx hb dX4_rank_5 rfl (lv_at hl 0 rfl) ?_
  refine lv_iload_n hx hb dX4_rank_6 rfl (lv_at hl 1 rfl) ?_
  refine mw_calli hP hS hA (va_runV (As := [.int x]) (rest := []) ⟨hx, hb, hml, hE.2.2.2.1, hE.2.2.1⟩ (tX4_isOrder l D k _ _ ad (va_up v 0 0) g n x hN hV ⟨hb0, hb1, hb2, hb3⟩ rfl) (cwV 1 hE.2.2.1 gX4_rank_X4_isOrder rfl rfl rfl (by decide +kernel) ⟨(Nat.le_of_ble_eq_true rfl), (Nat.le_of_ble_eq_true rfl)⟩) (mw_preV hE hP (ci := 5) rfl rfl mo_o [.int x]) rfl rfl hl.1 rfl (lv_room (Nat.le_of_ble_eq_true rfl)) dX4_rank_7 ⟨(Nat.le_of_ble_eq_true rfl), (Nat.le_of_ble_eq_true rfl)⟩) (fun r_1 M1 H locs hw hP hS => ?_)
  obtain ⟨rfl, hw⟩ := hw
  rcases hw with ⟨hq_2, rfl⟩ | ⟨hq_2, rfl⟩
  · obtain ⟨oo, hoo, rfl⟩ := vp_in_of hq_2 (by omega)
    refine lv_if_ne (tgt := 16) hx hb dX4_rank_10 (by decide) (fun _ => ?_) (fun c9 => absurd c9 (by decide))
    refine lv_iload_n hx hb dX4_rank_16 rfl (lv_at hl 2 rfl) ?_
    refine mw_calli hP hS hA (va_runS (As := [.int y]) (rest := []) ⟨hx, hb, hml, hE.2.2.2.1, hE.2.2.1⟩ (tX4_isCode l D k _ _ y) (va_cwS 1 hE.2.2.1 gX4_rank_X4_isCode rfl rfl rfl (by decide +kernel) ⟨(Nat.le_of_ble_eq_true rfl), (Nat.le_of_ble_eq_true rfl)⟩) (mw_preS hE hP [.int y]) rfl rfl hl.1 rfl (lv_room (Nat.le_of_ble_eq_true rfl)) dX4_rank_17 ⟨(Nat.le_of_ble_eq_true rfl), (Nat.le_of_ble_eq_true rfl)⟩) (fun r_4 M1 H locs hw hP hS => ?_)
    obtain ⟨rfl, hw⟩ := hw
    rcases hw with ⟨hq_5, rfl⟩ | ⟨hq_5, rfl⟩
    · obtain ⟨j, hj, rfl⟩ := vp_in_of hq_5 (by omega)
      refine lv_if_eq (tgt := 32) hx hb dX4_rank_20 (by decide) (fun c9 => absurd c9 (by decide)) (fun _ => ?_)
      refine lv_aload_n hx hb dX4_rank_23 rfl (lv_at hl 0 rfl) ?_
      refine lv_iload_n hx hb dX4_rank_24 rfl (lv_at hl 1 rfl) ?_
      refine lv_iload_n hx hb dX4_rank_25 rfl (lv_at hl 2 rfl) ?_
      refine mw_calli hP hS hA (va_runV (As := [.int (nI oo), .int (nI j)]) (rest := []) ⟨hx, hb, hml, hE.2.2.2.1, hE.2.2.1⟩ (tX4_rankOf l D k _ _ ad (va_up v 0 0) g n oo j hN hV ⟨hb0, hb1, hb2, hb3⟩ rfl (by omega) (by omega)) (cwV 2 hE.2.2.1 gX4_rank_X4_rankOf rfl rfl rfl (by decide +kernel) ⟨(Nat.le_of_ble_eq_true rfl), (Nat.le_of_ble_eq_true rfl)⟩) (mw_preV hE hP (ci := 5) rfl rfl mo_o [.int (nI oo), .int (nI j)]) rfl rfl hl.1 rfl (lv_room (Nat.le_of_ble_eq_true rfl)) dX4_rank_26 ⟨(Nat.le_of_ble_eq_true rfl), (Nat.le_of_ble_eq_true rfl)⟩) (fun r_7 M1 H locs hw1 hP hS => ?_)
      obtain ⟨rfl, er_7⟩ := hw1
      refine lv_goto (tgt := 34) hx hb dX4_rank_29 (by decide) ?_
      exact mw_iret (v := r_7) hE hr hlocks hP hS dX4_rank_34 (⟨_, rfl, hV, Or.inr (Or.inr ⟨oo, j, hoo, hj, rfl, rfl, er_7⟩)⟩)
    · refine lv_if_eq (tgt := 32) hx hb dX4_rank_20 (by decide) (fun _ => ?_) (fun c9 => absurd (by decide) c9)
      refine lv_bipush (v := (-4)) hx hb dX4_rank_32 (by decide) ?_
      exact mw_iret (v := (-4)) hE hr hlocks hP hS dX4_rank_34 (⟨_, rfl, hV, Or.inr (Or.inl ⟨vp_in_nI hoo (by omega), hq_5, rfl⟩)⟩)
  · refine lv_if_ne (tgt := 16) hx hb dX4_rank_10 (by decide) (fun c9 => absurd (by decide) c9) (fun _ => ?_)
    refine lv_bipush (v := (-2)) hx hb dX4_rank_13 (by decide) ?_
    exact mw_iret (v := (-2)) hE hr hlocks hP hS dX4_rank_15 (⟨_, rfl, hV, Or.inl ⟨hq_2, rfl⟩⟩)

set_option maxRecDepth 20000 in
theorem mX4_high_f34 : Cond.fieldLink RX4 34 "CodePagesModel" "code" "I" ∈ wsX4_high := by decide +kernel
set_option maxRecDepth 20000 in
theorem iX4_high_X4 : ∀ w ∈ u_ws RX4 TX4 14, w ∈ wsX4_high := by decide +kernel
set_option maxHeartbeats 4000000 in
set_option maxRecDepth 100000 in
theorem tX4_high (l : Launch) (D : va_G) (k : Nat → ClassId) (M : mw) (sz : Nat) (ad : Nat → Nat) (v : Nat → Int32) (g : Nat → Nat → Int32) (n : Nat → Nat) (x : Int32) (hN : mo_N ad) (hV : mo_V v n) (hn9 : mo_B n) (hM : M = mo_M (k 0) ad v g) : Met l yX4_high wsX4_high ({ frames := 1, cells := 0, slots := 0, locals := 25 }) (va_Pc [.ref (ad 0), .int x] (mw_U D vwCl (TY k) M sz)) (va_Qi (fun r M1 => ∃ v1, M1 = mo_M (k 0) ad v1 g ∧ mo_V v1 n ∧ R_high n g x r) (mw_B D vwCl M sz) (mw_A M sz)) 0 0 (mw_A M sz) := by
  refine mw_met (cc := cX4_high) (maxL := 4) (ret := (some .int)) (lv := [(0, .ref (ad 0)), (1, .int x)]) (by decide) rfl (Nat.le_of_ble_eq_true rfl) rfl ?_
  intro p e s m below meth c ls hE hr hlocks hin hml hsz hP hS hl
  subst hsz
  have hx := hE.1
  have hb := hE.2.1
  have hA : ∀ q, s.heap.size ≤ q → mw_A M s.heap.size q := fun q h => Or.inr h
  obtain ⟨Q, hQ⟩ : ∃ Q : State → Prop, Q = MQ below (va_Qi (fun r M1 => ∃ v1, M1 = mo_M (k 0) ad v1 g ∧ mo_V v1 n ∧ R_high n g x r) (mw_B D vwCl M s.heap.size) (mw_A M s.heap.size)) ([.ref (ad 0), .int x] : List Value).toArray s 0 0 (mw_A M s.heap.size) := ⟨_, rfl⟩
  rw [← hQ]
  have hP : mw_Q (mw_A M s.heap.size) D vwCl (mo_M (k 0) ad v g) s.heap := by rw [← hM]; exact hP
  obtain ⟨hb0, hb1, hb2, hb3⟩ := hn9
  refine lv_aload_n hx hb dX4_high_0 rfl (lv_at hl 0 rfl) ?_
  refine lv_iconst (v := 0) hx hb dX4_high_1 (by decide) ?_
  refine mo_put hE iX4_high_X4 hP hS 0 (by decide) mX4_high_f34 rfl rfl (by decide +kernel) rfl dX4_high_2 (fun H locs hP hS => ?_)
  refine lv_aload_n hx hb dX4_high_5 rfl (lv_at hl 0 rfl) ?_
  refine lv_iload_n hx hb dX4_high_6 rfl (lv_at hl 1 rfl) ?_
  refine mw_calli hP hS hA (va_runV (As := [.int x]) (rest := []) ⟨hx, hb, hml, hE.2.2.2.1, hE.2.2.1⟩ (tX4_isOrder l D k _ _ ad (va_up v 0 0) g n x hN hV ⟨hb0, hb1, hb2, hb3⟩ rfl) (cwV 1 hE.2.2.1 gX4_high_X4_isOrder rfl rfl rfl (by decide +kernel) ⟨(Nat.le_of_ble_eq_true rfl), (Nat.le_of_ble_eq_true rfl)⟩) (mw_preV hE hP (ci := 5) rfl rfl mo_o [.int x]) rfl rfl hl.1 rfl (lv_room (Nat.le_of_ble_eq_true rfl)) dX4_high_7 ⟨(Nat.le_of_ble_eq_true rfl), (Nat.le_of_ble_eq_true rfl)⟩) (fun r_1 M1 H locs hw hP hS => ?_)
  obtain ⟨rfl, hw⟩ := hw
  rcases hw with ⟨hq_2, rfl⟩ | ⟨hq_2, rfl⟩
  · obtain ⟨oo, hoo, rfl⟩ := vp_in_of hq_2 (by omega)
    refine lv_if_ne (tgt := 16) hx hb dX4_high_10 (by decide) (fun _ => ?_) (fun c9 => absurd c9 (by decide))
    refine lv_iconst (v := 0) hx hb dX4_high_16 (by decide) ?_
    refine lv_istore_n (lv' := [(2, .int 0), (0, .ref (ad 0)), (1, .int (nI oo))]) hx hb dX4_high_17 rfl hl (by decide) rfl (fun ls hl => ?_)
    refine lv_iconst (v := 1) hx hb dX4_high_18 (by decide) ?_
    refine lv_istore_n (lv' := [(3, .int 1), (2, .int 0), (0, .ref (ad 0)), (1, .int (nI oo))]) hx hb dX4_high_19 rfl hl (by decide) rfl (fun ls hl => ?_)
    have lp_20 : ∀ (fu : Nat) (cc9 bb : Nat), (cc9 < 256) → (bb ≤ cc9) → (bb = hgh (rko g oo) cc9) → 256 - cc9 < fu → ∀ (H : Heap) (locs : List Loc), mw_Q (mw_A M s.heap.size) D vwCl (mo_M (k 0) ad (va_up v 0 0) g) H → va_S (mw_A M s.heap.size) s.heap H locs → ∀ ls : Array Slot, lv_has ls 4 [(0, .ref (ad 0)), (1, .int (nI oo)), (2, .int (nI bb)), (3, .int (nI (cc9 + 1)))] → W p l e ({ frames := 1, cells := 0, slots := 0, locals := 25 } : Room) s m ([.ref (ad 0), .int (nI oo)] : List Value).toArray below meth c H locs 0 0 Q (F0 m 20 ls []) := by
      intro fu
      induction fu with
      | zero => intro cc9 bb hc9 hb9 hbb hn; exact absurd hn (Nat.not_lt_zero _)
      | succ fu ih_20 =>
        intro cc9 bb hc9 hb9 hbb hn H locs hP hS ls hl
        refine lv_iload_n hx hb dX4_high_20 rfl (lv_at hl 3 rfl) ?_
        refine lv_sipush (v := nI 256) hx hb dX4_high_21 (by decide) ?_
        refine lv_icmp_ge (tgt := 54) hx hb dX4_high_24 (by decide) (fun c_24 => ?_) (fun c_24 => ?_)
        · have k_24 : 256 ≤ (cc9 + 1) := nn_le (a := 256) (b := (cc9 + 1)) c_24 (by omega) (by omega)
          refine lv_iload_n hx hb dX4_high_54 rfl (lv_at hl 2 rfl) ?_
          rw [hQ]
          exact mw_iret (v := nI bb) hE hr hlocks hP hS dX4_high_55 (⟨_, rfl, hV, Or.inr ⟨oo, hoo, rfl, by rw [hbb, show cc9 = 255 by omega]⟩⟩)
        · have k_24 : (cc9 + 1) < 256 := nn_nle (a := 256) (b := (cc9 + 1)) c_24 (by omega) (by omega)
          refine lv_aload_n hx hb dX4_high_27 rfl (lv_at hl 0 rfl) ?_
          refine lv_iload_n hx hb dX4_high_28 rfl (lv_at hl 1 rfl) ?_
          refine lv_iload_n hx hb dX4_high_29 rfl (lv_at hl 3 rfl) ?_
          refine mw_calli hP hS hA (va_runV (As := [.int (nI oo), .int (nI (cc9 + 1))]) (rest := []) ⟨hx, hb, hml, hE.2.2.2.1, hE.2.2.1⟩ (tX4_rankOf l D k _ _ ad (va_up v 0 0) g n oo (cc9 + 1) hN hV ⟨hb0, hb1, hb2, hb3⟩ rfl (by omega) (by omega)) (cwV 2 hE.2.2.1 gX4_high_X4_rankOf rfl rfl rfl (by decide +kernel) ⟨(Nat.le_of_ble_eq_true rfl), (Nat.le_of_ble_eq_true rfl)⟩) (mw_preV hE hP (ci := 5) rfl rfl mo_o [.int (nI oo), .int (nI (cc9 + 1))]) rfl rfl hl.1 rfl (lv_room (Nat.le_of_ble_eq_true rfl)) dX4_high_30 ⟨(Nat.le_of_ble_eq_true rfl), (Nat.le_of_ble_eq_true rfl)⟩) (fun r_5 M1 H locs hw1 hP hS => ?_)
          obtain ⟨rfl, er_5⟩ := hw1
          refine lv_aload_n hx hb dX4_high_33 rfl (lv_at hl 0 rfl) ?_
          refine lv_iload_n hx hb dX4_high_34 rfl (lv_at hl 1 rfl) ?_
          refine lv_iload_n hx hb dX4_high_35 rfl (lv_at hl 2 rfl) ?_
          refine mw_calli hP hS hA (va_runV (As := [.int (nI oo), .int (nI bb)]) (rest := [.int r_5]) ⟨hx, hb, hml, hE.2.2.2.1, hE.2.2.1⟩ (tX4_rankOf l D k _ _ ad (va_up v 0 0) g n oo bb hN hV ⟨hb0, hb1, hb2, hb3⟩ rfl (by omega) (by omega)) (cwV 2 hE.2.2.1 gX4_high_X4_rankOf rfl rfl rfl (by decide +kernel) ⟨(Nat.le_of_ble_eq_true rfl), (Nat.le_of_ble_eq_true rfl)⟩) (mw_preV hE hP (ci := 5) rfl rfl mo_o [.int (nI oo), .int (nI bb)]) rfl rfl hl.1 rfl (lv_room (Nat.le_of_ble_eq_true rfl)) dX4_high_36 ⟨(Nat.le_of_ble_eq_true rfl), (Nat.le_of_ble_eq_true rfl)⟩) (fun r_6 M1 H locs hw1 hP hS => ?_)
          obtain ⟨rfl, er_6⟩ := hw1
          refine lv_icmp_lt (tgt := 46) hx hb dX4_high_39 (by decide) (fun c_39 => ?_) (fun c_39 => ?_)
          · refine lv_iload_n hx hb dX4_high_46 rfl (lv_at hl 2 rfl) ?_
            refine lv_istore_n (lv' := [(2, .int (nI bb)), (0, .ref (ad 0)), (1, .int (nI oo)), (3, .int (nI (cc9 + 1)))]) hx hb dX4_high_47 rfl hl (by decide) rfl (fun ls hl => ?_)
            refine lv_iinc (v := nI ((cc9 + 1) + 1)) (lv' := [(3, .int (nI ((cc9 + 1) + 1))), (2, .int (nI bb)), (0, .ref (ad 0)), (1, .int (nI oo))]) hx hb dX4_high_48 hl (k := 3) rfl (nI_1 (cc9 + 1)) (by decide) rfl (fun ls hl => ?_)
            refine lv_goto (tgt := 20) hx hb dX4_high_51 (by decide) ?_
            exact ih_20 (cc9 + 1) bb (by omega) (by omega) (by rw [hgh, if_pos (by rw [← er_5, ← hbb, ← er_6]; exact c_39), hbb]) (by omega) H locs hP hS ls (lv_sub hl [2, 3, 1, 0] rfl)
          · refine lv_iload_n hx hb dX4_high_42 rfl (lv_at hl 3 rfl) ?_
            refine lv_goto (tgt := 47) hx hb dX4_high_43 (by decide) ?_
            refine lv_istore_n (lv' := [(2, .int (nI (cc9 + 1))), (0, .ref (ad 0)), (1, .int (nI oo)), (3, .int (nI (cc9 + 1)))]) hx hb dX4_high_47 rfl hl (by decide) rfl (fun ls hl => ?_)
            refine lv_iinc (v := nI ((cc9 + 1) + 1)) (lv' := [(3, .int (nI ((cc9 + 1) + 1))), (2, .int (nI (cc9 + 1))), (0, .ref (ad 0)), (1, .int (nI oo))]) hx hb dX4_high_48 hl (k := 3) rfl (nI_1 (cc9 + 1)) (by decide) rfl (fun ls hl => ?_)
            refine lv_goto (tgt := 20) hx hb dX4_high_51 (by decide) ?_
            exact ih_20 (cc9 + 1) (cc9 + 1) (by omega) (by omega) (by rw [hgh, if_neg (by rw [← er_5, ← hbb, ← er_6]; exact c_39)]) (by omega) H locs hP hS ls (lv_sub hl [2, 3, 1, 0] rfl)
    exact lp_20 (257) 0 0 (by omega) (by omega) (rfl) (by omega) _ _ hP hS ls (lv_sub hl [2, 3, 1, 0] rfl)
  · refine lv_if_ne (tgt := 16) hx hb dX4_high_10 (by decide) (fun c9 => absurd (by decide) c9) (fun _ => ?_)
    refine lv_bipush (v := (-2)) hx hb dX4_high_13 (by decide) ?_
    rw [hQ]
    exact mw_iret (v := (-2)) hE hr hlocks hP hS dX4_high_15 (⟨_, rfl, hV, Or.inl ⟨hq_2, rfl⟩⟩)

set_option maxRecDepth 20000 in
theorem mX4_meant_f38 : Cond.fieldLink RX4 38 "CodePagesModel" "pages" "I" ∈ wsX4_meant := by decide +kernel
set_option maxRecDepth 20000 in
theorem mX4_meant_f7 : Cond.fieldLink RX4 7 "CodePagesModel" "means" "[I" ∈ wsX4_meant := by decide +kernel
set_option maxRecDepth 20000 in
theorem iX4_meant_X4 : ∀ w ∈ u_ws RX4 TX4 14, w ∈ wsX4_meant := by decide +kernel
set_option maxHeartbeats 4000000 in
set_option maxRecDepth 100000 in
theorem tX4_meant (l : Launch) (D : va_G) (k : Nat → ClassId) (M : mw) (sz : Nat) (ad : Nat → Nat) (v : Nat → Int32) (g : Nat → Nat → Int32) (n : Nat → Nat) (cc9 : Nat) (hN : mo_N ad) (hV : mo_V v n) (hn9 : mo_B n) (hM : M = mo_M (k 0) ad v g) (hc9 : cc9 < 256) : Met l yX4_meant wsX4_meant ({ frames := 0, cells := 0, slots := 0, locals := 0 }) (va_Pc [.ref (ad 0), .int (nI cc9)] (mw_U D vwCl (TY k) M sz)) (va_Qi (fun r M1 => M1 = mo_M (k 0) ad v g ∧ r = nI (mnt n g cc9)) (mw_B D vwCl M sz) (mw_A M sz)) 0 0 (mw_A M sz) := by
  refine mw_met (cc := cX4_meant) (maxL := 5) (ret := (some .int)) (lv := [(0, .ref (ad 0)), (1, .int (nI cc9))]) (by decide) rfl (Nat.le_of_ble_eq_true rfl) rfl ?_
  intro p e s m below meth c ls hE hr hlocks hin hml hsz hP hS hl
  subst hsz
  have hx := hE.1
  have hb := hE.2.1
  have hA : ∀ q, s.heap.size ≤ q → mw_A M s.heap.size q := fun q h => Or.inr h
  obtain ⟨Q, hQ⟩ : ∃ Q : State → Prop, Q = MQ below (va_Qi (fun r M1 => M1 = mo_M (k 0) ad v g ∧ r = nI (mnt n g cc9)) (mw_B D vwCl M s.heap.size) (mw_A M s.heap.size)) ([.ref (ad 0), .int (nI cc9)] : List Value).toArray s 0 0 (mw_A M s.heap.size) := ⟨_, rfl⟩
  rw [← hQ]
  have hP : mw_Q (mw_A M s.heap.size) D vwCl (mo_M (k 0) ad v g) s.heap := by rw [← hM]; exact hP
  obtain ⟨hb0, hb1, hb2, hb3⟩ := hn9
  refine lv_aload_n hx hb dX4_meant_0 rfl (lv_at hl 0 rfl) ?_
  refine mo_get (x := .int (v 3)) hE iX4_meant_X4 hP 3 (by decide) mX4_meant_f38 rfl rfl dX4_meant_1 ?_
  refine rw_i (v := nI (n 0)) hV.1 ?_
  refine lv_if_ne (tgt := 9) hx hb dX4_meant_4 (by decide) (fun c_4 => ?_) (fun c_4 => ?_)
  · have k_4 : (n 0) ≠ 0 := nn_neq (a := (n 0)) (b := 0) c_4 (by omega) (by omega)
    refine lv_iconst (v := 0) hx hb dX4_meant_9 (by decide) ?_
    refine lv_istore_n (lv' := [(2, .int 0), (0, .ref (ad 0)), (1, .int (nI cc9))]) hx hb dX4_meant_10 rfl hl (by decide) rfl (fun ls hl => ?_)
    refine lv_iconst (v := 0) hx hb dX4_meant_11 (by decide) ?_
    refine lv_istore_n (lv' := [(3, .int 0), (2, .int 0), (0, .ref (ad 0)), (1, .int (nI cc9))]) hx hb dX4_meant_12 rfl hl (by decide) rfl (fun ls hl => ?_)
    have lp_13 : ∀ (fu : Nat) (d mm : Nat), (d ≤ 256) → (mm = cntb (ahd g cc9) d) → 256 - d < fu → ∀ (H : Heap) (locs : List Loc), mw_Q (mw_A M s.heap.size) D vwCl (mo_M (k 0) ad v g) H → va_S (mw_A M s.heap.size) s.heap H locs → ∀ ls : Array Slot, lv_has ls 5 [(0, .ref (ad 0)), (1, .int (nI cc9)), (2, .int (nI mm)), (3, .int (nI d))] → W p l e ({ frames := 0, cells := 0, slots := 0, locals := 0 } : Room) s m ([.ref (ad 0), .int (nI cc9)] : List Value).toArray below meth c H locs 0 0 Q (F0 m 13 ls []) := by
      intro fu
      induction fu with
      | zero => intro d mm hd hm hn; exact absurd hn (Nat.not_lt_zero _)
      | succ fu ih_13 =>
        intro d mm hd hm hn H locs hP hS ls hl
        refine lv_iload_n hx hb dX4_meant_13 rfl (lv_at hl 3 rfl) ?_
        refine lv_sipush (v := nI 256) hx hb dX4_meant_14 (by decide) ?_
        refine lv_icmp_ge (tgt := 104) hx hb dX4_meant_17 (by decide) (fun c_17 => ?_) (fun c_17 => ?_)
        · have k_17 : 256 ≤ d := nn_le (a := 256) (b := d) c_17 (by omega) (by omega)
          refine lv_iload_n hx hb dX4_meant_104 rfl (lv_at hl 2 rfl) ?_
          rw [hQ]
          exact mw_iret (v := nI mm) hE hr hlocks hP hS dX4_meant_105 (⟨rfl, by unfold mnt; rw [if_neg k_4, hm, show d = 256 by omega]⟩)
        · have k_17 : d < 256 := nn_nle (a := 256) (b := d) c_17 (by omega) (by omega)
          refine lv_aload_n hx hb dX4_meant_20 rfl (lv_at hl 0 rfl) ?_
          refine mo_get (x := .ref (ad 1)) hE iX4_meant_X4 hP 1 (by decide) mX4_meant_f7 rfl rfl dX4_meant_21 ?_
          refine lv_iload_n hx hb dX4_meant_24 rfl (lv_at hl 3 rfl) ?_
          refine mo_ld (n := 3072) hE hN hP 0 1 rfl (by decide) rfl (by decide) dX4_meant_25 (by omega) ?_
          refine lv_iconst (v := (-1)) hx hb dX4_meant_26 (by decide) ?_
          refine lv_icmp_ne (tgt := 53) hx hb dX4_meant_27 (by decide) (fun c_27 => ?_) (fun c_27 => ?_)
          · refine lv_aload_n hx hb dX4_meant_53 rfl (lv_at hl 0 rfl) ?_
            refine mo_get (x := .ref (ad 1)) hE iX4_meant_X4 hP 1 (by decide) mX4_meant_f7 rfl rfl dX4_meant_54 ?_
            refine lv_iload_n hx hb dX4_meant_57 rfl (lv_at hl 1 rfl) ?_
            refine mo_ld (n := 3072) hE hN hP 0 1 rfl (by decide) rfl (by decide) dX4_meant_58 (by omega) ?_
            refine lv_iconst (v := (-1)) hx hb dX4_meant_59 (by decide) ?_
            refine lv_icmp_eq (tgt := 78) hx hb dX4_meant_60 (by decide) (fun c_60 => ?_) (fun c_60 => ?_)
            · refine lv_iconst (v := 1) hx hb dX4_meant_78 (by decide) ?_
              refine lv_goto (tgt := 83) hx hb dX4_meant_79 (by decide) ?_
              refine lv_istore (lv' := [(4, .int 1), (0, .ref (ad 0)), (1, .int (nI cc9)), (2, .int (nI mm)), (3, .int (nI d))]) hx hb dX4_meant_83 hl (by decide) rfl (fun ls hl => ?_)
              refine lv_iload_n hx hb dX4_meant_85 rfl (lv_at hl 3 rfl) ?_
              refine lv_iload hx hb dX4_meant_86 (lv_at hl 0 rfl) ?_
              refine lv_if_eq (tgt := 95) hx hb dX4_meant_88 (by decide) (fun c9 => absurd c9 (by decide)) (fun _ => ?_)
              refine lv_iconst (v := 1) hx hb dX4_meant_91 (by decide) ?_
              refine lv_goto (tgt := 96) hx hb dX4_meant_92 (by decide) ?_
              refine lv_iadd hx hb dX4_meant_96 ?_
              refine rw_i (v := nI (mm + 1)) (nI_1 _) ?_
              refine lv_istore_n (lv' := [(2, .int (nI (mm + 1))), (4, .int 1), (0, .ref (ad 0)), (1, .int (nI cc9)), (3, .int (nI d))]) hx hb dX4_meant_97 rfl hl (by decide) rfl (fun ls hl => ?_)
              refine lv_iinc (v := nI (d + 1)) (lv' := [(3, .int (nI (d + 1))), (2, .int (nI (mm + 1))), (4, .int 1), (0, .ref (ad 0)), (1, .int (nI cc9))]) hx hb dX4_meant_98 hl (k := 4) rfl (nI_1 d) (by decide) rfl (fun ls hl => ?_)
              refine lv_goto (tgt := 13) hx hb dX4_meant_101 (by decide) ?_
              exact ih_13 (d + 1) (mm + 1) (by omega) (by rw [cntb_t (show ahd g cc9 d = true by unfold ahd; simp [c_27, c_60]), hm]) (by omega) H locs hP hS ls (lv_sub hl [3, 4, 1, 0] rfl)
            · refine lv_aload_n hx hb dX4_meant_63 rfl (lv_at hl 0 rfl) ?_
              refine mo_get (x := .ref (ad 1)) hE iX4_meant_X4 hP 1 (by decide) mX4_meant_f7 rfl rfl dX4_meant_64 ?_
              refine lv_iload_n hx hb dX4_meant_67 rfl (lv_at hl 3 rfl) ?_
              refine mo_ld (n := 3072) hE hN hP 0 1 rfl (by decide) rfl (by decide) dX4_meant_68 (by omega) ?_
              refine lv_aload_n hx hb dX4_meant_69 rfl (lv_at hl 0 rfl) ?_
              refine mo_get (x := .ref (ad 1)) hE iX4_meant_X4 hP 1 (by decide) mX4_meant_f7 rfl rfl dX4_meant_70 ?_
              refine lv_iload_n hx hb dX4_meant_73 rfl (lv_at hl 1 rfl) ?_
              refine mo_ld (n := 3072) hE hN hP 0 1 rfl (by decide) rfl (by decide) dX4_meant_74 (by omega) ?_
              refine lv_icmp_ge (tgt := 82) hx hb dX4_meant_75 (by decide) (fun c_75 => ?_) (fun c_75 => ?_)
              · refine lv_iconst (v := 0) hx hb dX4_meant_82 (by decide) ?_
                refine lv_istore (lv' := [(4, .int 0), (0, .ref (ad 0)), (1, .int (nI cc9)), (2, .int (nI mm)), (3, .int (nI d))]) hx hb dX4_meant_83 hl (by decide) rfl (fun ls hl => ?_)
                refine lv_iload_n hx hb dX4_meant_85 rfl (lv_at hl 3 rfl) ?_
                refine lv_iload hx hb dX4_meant_86 (lv_at hl 0 rfl) ?_
                refine lv_if_eq (tgt := 95) hx hb dX4_meant_88 (by decide) (fun _ => ?_) (fun c9 => absurd (by decide) c9)
                refine lv_iconst (v := 0) hx hb dX4_meant_95 (by decide) ?_
                refine lv_iadd hx hb dX4_meant_96 ?_
                refine rw_i (v := nI mm) (Int32.add_zero _) ?_
                refine lv_istore_n (lv' := [(2, .int (nI mm)), (4, .int 0), (0, .ref (ad 0)), (1, .int (nI cc9)), (3, .int (nI d))]) hx hb dX4_meant_97 rfl hl (by decide) rfl (fun ls hl => ?_)
                refine lv_iinc (v := nI (d + 1)) (lv' := [(3, .int (nI (d + 1))), (2, .int (nI mm)), (4, .int 0), (0, .ref (ad 0)), (1, .int (nI cc9))]) hx hb dX4_meant_98 hl (k := 4) rfl (nI_1 d) (by decide) rfl (fun ls hl => ?_)
                refine lv_goto (tgt := 13) hx hb dX4_meant_101 (by decide) ?_
                exact ih_13 (d + 1) mm (by omega) (by rw [cntb_f (show ahd g cc9 d = false by unfold ahd; simp [c_27, c_60, c_75]), hm]) (by omega) H locs hP hS ls (lv_sub hl [3, 4, 1, 0] rfl)
              · refine lv_iconst (v := 1) hx hb dX4_meant_78 (by decide) ?_
                refine lv_goto (tgt := 83) hx hb dX4_meant_79 (by decide) ?_
                refine lv_istore (lv' := [(4, .int 1), (0, .ref (ad 0)), (1, .int (nI cc9)), (2, .int (nI mm)), (3, .int (nI d))]) hx hb dX4_meant_83 hl (by decide) rfl (fun ls hl => ?_)
                refine lv_iload_n hx hb dX4_meant_85 rfl (lv_at hl 3 rfl) ?_
                refine lv_iload hx hb dX4_meant_86 (lv_at hl 0 rfl) ?_
                refine lv_if_eq (tgt := 95) hx hb dX4_meant_88 (by decide) (fun c9 => absurd c9 (by decide)) (fun _ => ?_)
                refine lv_iconst (v := 1) hx hb dX4_meant_91 (by decide) ?_
                refine lv_goto (tgt := 96) hx hb dX4_meant_92 (by decide) ?_
                refine lv_iadd hx hb dX4_meant_96 ?_
                refine rw_i (v := nI (mm + 1)) (nI_1 _) ?_
                refine lv_istore_n (lv' := [(2, .int (nI (mm + 1))), (4, .int 1), (0, .ref (ad 0)), (1, .int (nI cc9)), (3, .int (nI d))]) hx hb dX4_meant_97 rfl hl (by decide) rfl (fun ls hl => ?_)
                refine lv_iinc (v := nI (d + 1)) (lv' := [(3, .int (nI (d + 1))), (2, .int (nI (mm + 1))), (4, .int 1), (0, .ref (ad 0)), (1, .int (nI cc9))]) hx hb dX4_meant_98 hl (k := 4) rfl (nI_1 d) (by decide) rfl (fun ls hl => ?_)
                refine lv_goto (tgt := 13) hx hb dX4_meant_101 (by decide) ?_
                exact ih_13 (d + 1) (mm + 1) (by omega) (by rw [cntb_t (show ahd g cc9 d = true by unfold ahd; simp [c_27, c_60, Int32.not_le.mp c_75]), hm]) (by omega) H locs hP hS ls (lv_sub hl [3, 4, 1, 0] rfl)
          · refine lv_aload_n hx hb dX4_meant_30 rfl (lv_at hl 0 rfl) ?_
            refine mo_get (x := .ref (ad 1)) hE iX4_meant_X4 hP 1 (by decide) mX4_meant_f7 rfl rfl dX4_meant_31 ?_
            refine lv_iload_n hx hb dX4_meant_34 rfl (lv_at hl 1 rfl) ?_
            refine mo_ld (n := 3072) hE hN hP 0 1 rfl (by decide) rfl (by decide) dX4_meant_35 (by omega) ?_
            refine lv_iconst (v := (-1)) hx hb dX4_meant_36 (by decide) ?_
            refine lv_icmp_ne (tgt := 49) hx hb dX4_meant_37 (by decide) (fun c_37 => ?_) (fun c_37 => ?_)
            · refine lv_iconst (v := 0) hx hb dX4_meant_49 (by decide) ?_
              refine lv_goto (tgt := 83) hx hb dX4_meant_50 (by decide) ?_
              refine lv_istore (lv' := [(4, .int 0), (0, .ref (ad 0)), (1, .int (nI cc9)), (2, .int (nI mm)), (3, .int (nI d))]) hx hb dX4_meant_83 hl (by decide) rfl (fun ls hl => ?_)
              refine lv_iload_n hx hb dX4_meant_85 rfl (lv_at hl 3 rfl) ?_
              refine lv_iload hx hb dX4_meant_86 (lv_at hl 0 rfl) ?_
              refine lv_if_eq (tgt := 95) hx hb dX4_meant_88 (by decide) (fun _ => ?_) (fun c9 => absurd (by decide) c9)
              refine lv_iconst (v := 0) hx hb dX4_meant_95 (by decide) ?_
              refine lv_iadd hx hb dX4_meant_96 ?_
              refine rw_i (v := nI mm) (Int32.add_zero _) ?_
              refine lv_istore_n (lv' := [(2, .int (nI mm)), (4, .int 0), (0, .ref (ad 0)), (1, .int (nI cc9)), (3, .int (nI d))]) hx hb dX4_meant_97 rfl hl (by decide) rfl (fun ls hl => ?_)
              refine lv_iinc (v := nI (d + 1)) (lv' := [(3, .int (nI (d + 1))), (2, .int (nI mm)), (4, .int 0), (0, .ref (ad 0)), (1, .int (nI cc9))]) hx hb dX4_meant_98 hl (k := 4) rfl (nI_1 d) (by decide) rfl (fun ls hl => ?_)
              refine lv_goto (tgt := 13) hx hb dX4_meant_101 (by decide) ?_
              exact ih_13 (d + 1) mm (by omega) (by rw [cntb_f (show ahd g cc9 d = false by unfold ahd; simp [c_27, c_37]), hm]) (by omega) H locs hP hS ls (lv_sub hl [3, 4, 1, 0] rfl)
            · refine lv_iload_n hx hb dX4_meant_40 rfl (lv_at hl 3 rfl) ?_
              refine lv_iload_n hx hb dX4_meant_41 rfl (lv_at hl 1 rfl) ?_
              refine lv_icmp_ge (tgt := 49) hx hb dX4_meant_42 (by decide) (fun c_42 => ?_) (fun c_42 => ?_)
              · have k_42 : cc9 ≤ d := nn_le (a := cc9) (b := d) c_42 (by omega) (by omega)
                refine lv_iconst (v := 0) hx hb dX4_meant_49 (by decide) ?_
                refine lv_goto (tgt := 83) hx hb dX4_meant_50 (by decide) ?_
                refine lv_istore (lv' := [(4, .int 0), (0, .ref (ad 0)), (1, .int (nI cc9)), (2, .int (nI mm)), (3, .int (nI d))]) hx hb dX4_meant_83 hl (by decide) rfl (fun ls hl => ?_)
                refine lv_iload_n hx hb dX4_meant_85 rfl (lv_at hl 3 rfl) ?_
                refine lv_iload hx hb dX4_meant_86 (lv_at hl 0 rfl) ?_
                refine lv_if_eq (tgt := 95) hx hb dX4_meant_88 (by decide) (fun _ => ?_) (fun c9 => absurd (by decide) c9)
                refine lv_iconst (v := 0) hx hb dX4_meant_95 (by decide) ?_
                refine lv_iadd hx hb dX4_meant_96 ?_
                refine rw_i (v := nI mm) (Int32.add_zero _) ?_
                refine lv_istore_n (lv' := [(2, .int (nI mm)), (4, .int 0), (0, .ref (ad 0)), (1, .int (nI cc9)), (3, .int (nI d))]) hx hb dX4_meant_97 rfl hl (by decide) rfl (fun ls hl => ?_)
                refine lv_iinc (v := nI (d + 1)) (lv' := [(3, .int (nI (d + 1))), (2, .int (nI mm)), (4, .int 0), (0, .ref (ad 0)), (1, .int (nI cc9))]) hx hb dX4_meant_98 hl (k := 4) rfl (nI_1 d) (by decide) rfl (fun ls hl => ?_)
                refine lv_goto (tgt := 13) hx hb dX4_meant_101 (by decide) ?_
                exact ih_13 (d + 1) mm (by omega) (by rw [cntb_f (show ahd g cc9 d = false by unfold ahd; simp [c_27, c_37]; omega), hm]) (by omega) H locs hP hS ls (lv_sub hl [3, 4, 1, 0] rfl)
              · have k_42 : d < cc9 := nn_nle (a := cc9) (b := d) c_42 (by omega) (by omega)
                refine lv_iconst (v := 1) hx hb dX4_meant_45 (by decide) ?_
                refine lv_goto (tgt := 83) hx hb dX4_meant_46 (by decide) ?_
                refine lv_istore (lv' := [(4, .int 1), (0, .ref (ad 0)), (1, .int (nI cc9)), (2, .int (nI mm)), (3, .int (nI d))]) hx hb dX4_meant_83 hl (by decide) rfl (fun ls hl => ?_)
                refine lv_iload_n hx hb dX4_meant_85 rfl (lv_at hl 3 rfl) ?_
                refine lv_iload hx hb dX4_meant_86 (lv_at hl 0 rfl) ?_
                refine lv_if_eq (tgt := 95) hx hb dX4_meant_88 (by decide) (fun c9 => absurd c9 (by decide)) (fun _ => ?_)
                refine lv_iconst (v := 1) hx hb dX4_meant_91 (by decide) ?_
                refine lv_goto (tgt := 96) hx hb dX4_meant_92 (by decide) ?_
                refine lv_iadd hx hb dX4_meant_96 ?_
                refine rw_i (v := nI (mm + 1)) (nI_1 _) ?_
                refine lv_istore_n (lv' := [(2, .int (nI (mm + 1))), (4, .int 1), (0, .ref (ad 0)), (1, .int (nI cc9)), (3, .int (nI d))]) hx hb dX4_meant_97 rfl hl (by decide) rfl (fun ls hl => ?_)
                refine lv_iinc (v := nI (d + 1)) (lv' := [(3, .int (nI (d + 1))), (2, .int (nI (mm + 1))), (4, .int 1), (0, .ref (ad 0)), (1, .int (nI cc9))]) hx hb dX4_meant_98 hl (k := 4) rfl (nI_1 d) (by decide) rfl (fun ls hl => ?_)
                refine lv_goto (tgt := 13) hx hb dX4_meant_101 (by decide) ?_
                exact ih_13 (d + 1) (mm + 1) (by omega) (by rw [cntb_t (show ahd g cc9 d = true by unfold ahd; simp [c_27, c_37, c_42, k_42]), hm]) (by omega) H locs hP hS ls (lv_sub hl [3, 4, 1, 0] rfl)
    exact lp_13 (257) 0 0 (by omega) (rfl) (by omega) _ _ hP hS ls (lv_sub hl [2, 3, 1, 0] rfl)
  · have k_4 : (n 0) = 0 := nn_eq (a := (n 0)) (b := 0) c_4 (by omega) (by omega)
    refine lv_iload_n hx hb dX4_meant_7 rfl (lv_at hl 1 rfl) ?_
    rw [hQ]
    exact mw_iret (v := nI cc9) hE hr hlocks hP hS dX4_meant_8 (⟨rfl, by unfold mnt; rw [if_pos k_4]⟩)
