set_option maxRecDepth 20000 in
theorem mX4_order_f16 : Cond.fieldLink RX4 16 "CodePagesModel" "kinds" "[I" ∈ wsX4_order := by decide +kernel
set_option maxRecDepth 20000 in
theorem mX4_order_f19 : Cond.fieldLink RX4 19 "CodePagesModel" "ranks" "[I" ∈ wsX4_order := by decide +kernel
set_option maxRecDepth 20000 in
theorem mX4_order_f22 : Cond.fieldLink RX4 22 "CodePagesModel" "next" "[I" ∈ wsX4_order := by decide +kernel
set_option maxRecDepth 20000 in
theorem mX4_order_f34 : Cond.fieldLink RX4 34 "CodePagesModel" "code" "I" ∈ wsX4_order := by decide +kernel
set_option maxRecDepth 20000 in
theorem mX4_order_f41 : Cond.fieldLink RX4 41 "CodePagesModel" "orders" "I" ∈ wsX4_order := by decide +kernel
set_option maxRecDepth 20000 in
theorem iX4_order_X4 : ∀ w ∈ u_ws RX4 TX4 14, w ∈ wsX4_order := by decide +kernel
set_option maxHeartbeats 4000000 in
set_option maxRecDepth 100000 in
theorem tX4_order (l : Launch) (D : va_G) (k : Nat → ClassId) (M : mw) (sz : Nat) (ad : Nat → Nat) (v : Nat → Int32) (g : Nat → Nat → Int32) (n : Nat → Nat) (x : Int32) (hN : mo_N ad) (hV : mo_V v n) (hn9 : mo_B n) (hM : M = mo_M (k 0) ad v g) : Met l yX4_order wsX4_order ({ frames := 1, cells := 0, slots := 0, locals := 24 }) (va_Pc [.ref (ad 0), .int x] (mw_U D vwCl (TY k) M sz)) (va_Qi (fun r M1 => ∃ v1 g1 n1, M1 = mo_M (k 0) ad v1 g1 ∧ mo_V v1 n1 ∧ R_order n g x r n1 g1) (mw_B D vwCl M sz) (mw_A M sz)) 0 0 (mw_A M sz) := by
  refine mw_met (cc := cX4_order) (maxL := 3) (ret := (some .int)) (lv := [(0, .ref (ad 0)), (1, .int x)]) (by decide) rfl (Nat.le_of_ble_eq_true rfl) rfl ?_
  intro p e s m below meth c ls hE hr hlocks hin hml hsz hP hS hl
  subst hsz
  have hx := hE.1
  have hb := hE.2.1
  have hA : ∀ q, s.heap.size ≤ q → mw_A M s.heap.size q := fun q h => Or.inr h
  obtain ⟨Q, hQ⟩ : ∃ Q : State → Prop, Q = MQ below (va_Qi (fun r M1 => ∃ v1 g1 n1, M1 = mo_M (k 0) ad v1 g1 ∧ mo_V v1 n1 ∧ R_order n g x r n1 g1) (mw_B D vwCl M s.heap.size) (mw_A M s.heap.size)) ([.ref (ad 0), .int x] : List Value).toArray s 0 0 (mw_A M s.heap.size) := ⟨_, rfl⟩
  rw [← hQ]
  have hP : mw_Q (mw_A M s.heap.size) D vwCl (mo_M (k 0) ad v g) s.heap := by rw [← hM]; exact hP
  obtain ⟨hb0, hb1, hb2, hb3⟩ := hn9
  refine lv_aload_n hx hb dX4_order_0 rfl (lv_at hl 0 rfl) ?_
  refine lv_iconst (v := 0) hx hb dX4_order_1 (by decide) ?_
  refine mo_put hE iX4_order_X4 hP hS 0 (by decide) mX4_order_f34 rfl rfl (by decide +kernel) rfl dX4_order_2 (fun H locs hP hS => ?_)
  refine lv_iload_n hx hb dX4_order_5 rfl (lv_at hl 1 rfl) ?_
  refine lv_if_lt (tgt := 14) hx hb dX4_order_6 (by decide) (fun c_6 => ?_) (fun c_6 => ?_)
  · refine lv_bipush (v := (-4)) hx hb dX4_order_14 (by decide) ?_
    rw [hQ]
    exact mw_iret (v := (-4)) hE hr hlocks hP hS dX4_order_16 (⟨va_up v 0 0, g, n, rfl, hV, Or.inl ⟨fun q => ((rw_in1 (n := 2) (by decide)).mp q).1 c_6, rfl, rfl, rfl⟩⟩)
  · refine lv_iload_n hx hb dX4_order_9 rfl (lv_at hl 1 rfl) ?_
    refine lv_iconst (v := nI 2) hx hb dX4_order_10 (by decide) ?_
    refine lv_icmp_le (tgt := 17) hx hb dX4_order_11 (by decide) (fun c_11 => ?_) (fun c_11 => ?_)
    · have hx3 := (show vp_in x 3 from (rw_in1 (n := 2) (by decide)).mpr ⟨c_6, Int32.not_lt.mpr c_11⟩)
      obtain ⟨z, hz, rfl⟩ := vp_in_of hx3 (by omega)
      refine lv_aload_n hx hb dX4_order_17 rfl (lv_at hl 0 rfl) ?_
      refine mo_get (x := .int (v 7)) hE iX4_order_X4 hP 7 (by decide) mX4_order_f41 rfl rfl dX4_order_18 ?_
      refine rw_i (v := nI (n 1)) hV.2.1 ?_
      refine lv_bipush (v := nI 12) hx hb dX4_order_21 (by decide) ?_
      refine lv_icmp_ne (tgt := 28) hx hb dX4_order_23 (by decide) (fun c_23 => ?_) (fun c_23 => ?_)
      · have k_23 : (n 1) ≠ 12 := nn_neq (a := (n 1)) (b := 12) c_23 (by omega) (by omega)
        refine lv_aload_n hx hb dX4_order_28 rfl (lv_at hl 0 rfl) ?_
        refine mo_get (x := .ref (ad 4)) hE iX4_order_X4 hP 4 (by decide) mX4_order_f16 rfl rfl dX4_order_29 ?_
        refine lv_aload_n hx hb dX4_order_32 rfl (lv_at hl 0 rfl) ?_
        refine mo_get (x := .int (v 7)) hE iX4_order_X4 hP 7 (by decide) mX4_order_f41 rfl rfl dX4_order_33 ?_
        refine rw_i (v := nI (n 1)) hV.2.1 ?_
        refine lv_iload_n hx hb dX4_order_36 rfl (lv_at hl 1 rfl) ?_
        refine mo_st (n := 12) hE hN hP hS 0 4 rfl (by decide) rfl (by decide) dX4_order_37 (by omega) (fun H locs hP hS => ?_)
        refine lv_aload_n hx hb dX4_order_38 rfl (lv_at hl 0 rfl) ?_
        refine mo_get (x := .ref (ad 6)) hE iX4_order_X4 hP 6 (by decide) mX4_order_f22 rfl rfl dX4_order_39 ?_
        refine lv_aload_n hx hb dX4_order_42 rfl (lv_at hl 0 rfl) ?_
        refine mo_get (x := .int (v 7)) hE iX4_order_X4 hP 7 (by decide) mX4_order_f41 rfl rfl dX4_order_43 ?_
        refine rw_i (v := nI (n 1)) hV.2.1 ?_
        refine lv_iconst (v := 0) hx hb dX4_order_46 (by decide) ?_
        refine mo_st (n := 12) hE hN hP hS 0 6 rfl (by decide) rfl (by decide) dX4_order_47 (by omega) (fun H locs hP hS => ?_)
        refine lv_iconst (v := 0) hx hb dX4_order_48 (by decide) ?_
        refine lv_istore_n (lv' := [(2, .int 0), (0, .ref (ad 0)), (1, .int (nI z))]) hx hb dX4_order_49 rfl hl (by decide) rfl (fun ls hl => ?_)
        have hP : mw_Q (mw_A M s.heap.size) D vwCl (mo_M (k 0) ad (va_up v 0 0) (va_up (va_up (va_up g 4 (upd (g 4) (n 1) (nI z))) 6 (upd (g 6) (n 1) 0)) 5 (blk (g 5) (256 * n 1) 0 (fo n g z)))) H := by rw [blk_0, show va_up (va_up (va_up g 4 (upd (g 4) (n 1) (nI z))) 6 (upd (g 6) (n 1) 0)) 5 (g 5) = va_up (va_up g 4 (upd (g 4) (n 1) (nI z))) 6 (upd (g 6) (n 1) 0) from up_id (g := va_up (va_up g 4 (upd (g 4) (n 1) (nI z))) 6 (upd (g 6) (n 1) 0)) (k := 5)]; exact hP
        have lp_50 : ∀ (fu : Nat) (i : Nat), (i ≤ 256) → 256 - i < fu → ∀ (H : Heap) (locs : List Loc), mw_Q (mw_A M s.heap.size) D vwCl (mo_M (k 0) ad (va_up v 0 0) (va_up (va_up (va_up g 4 (upd (g 4) (n 1) (nI z))) 6 (upd (g 6) (n 1) 0)) 5 (blk (g 5) (256 * n 1) i (fo n g z)))) H → va_S (mw_A M s.heap.size) s.heap H locs → ∀ ls : Array Slot, lv_has ls 3 [(0, .ref (ad 0)), (1, .int (nI z)), (2, .int (nI i))] → W p l e ({ frames := 1, cells := 0, slots := 0, locals := 24 } : Room) s m ([.ref (ad 0), .int (nI z)] : List Value).toArray below meth c H locs 0 0 Q (F0 m 50 ls []) := by
          intro fu
          induction fu with
          | zero => intro i hi hn; exact absurd hn (Nat.not_lt_zero _)
          | succ fu ih_50 =>
            intro i hi hn H locs hP hS ls hl
            refine lv_iload_n hx hb dX4_order_50 rfl (lv_at hl 2 rfl) ?_
            refine lv_sipush (v := nI 256) hx hb dX4_order_51 (by decide) ?_
            refine lv_icmp_ge (tgt := 100) hx hb dX4_order_54 (by decide) (fun c_54 => ?_) (fun c_54 => ?_)
            · have k_54 : 256 ≤ i := nn_le (a := 256) (b := i) c_54 (by omega) (by omega)
              obtain rfl : i = 256 := by omega
              refine lv_aload_n hx hb dX4_order_100 rfl (lv_at hl 0 rfl) ?_
              refine lv_dup hx hb dX4_order_101 rfl ?_
              refine mo_get (x := .int (v 7)) hE iX4_order_X4 hP 7 (by decide) mX4_order_f41 rfl rfl dX4_order_102 ?_
              refine rw_i (v := nI (n 1)) hV.2.1 ?_
              refine lv_iconst (v := 1) hx hb dX4_order_105 (by decide) ?_
              refine lv_iadd hx hb dX4_order_106 ?_
              refine rw_i (v := nI ((n 1) + 1)) (nI_1 _) ?_
              refine mo_put hE iX4_order_X4 hP hS 7 (by decide) mX4_order_f41 rfl rfl (by decide +kernel) rfl dX4_order_107 (fun H locs hP hS => ?_)
              refine lv_aload_n hx hb dX4_order_110 rfl (lv_at hl 0 rfl) ?_
              refine mo_get (x := .int (nI ((n 1) + 1))) hE iX4_order_X4 hP 7 (by decide) mX4_order_f41 rfl rfl dX4_order_111 ?_
              refine lv_iconst (v := 1) hx hb dX4_order_114 (by decide) ?_
              refine lv_isub hx hb dX4_order_115 ?_
              refine rw_i (v := nI (n 1)) (nI_pred _) ?_
              rw [hQ]
              exact mw_iret (v := nI (n 1)) hE hr hlocks hP hS dX4_order_116 (⟨_, _, va_up n 1 (n 1 + 1), rfl, ⟨hV.1, rfl, hV.2.2.1, hV.2.2.2⟩, Or.inr (Or.inr ⟨z, hz, rfl, by omega, rfl, rfl, rfl⟩)⟩)
            · have k_54 : i < 256 := nn_nle (a := 256) (b := i) c_54 (by omega) (by omega)
              refine lv_aload_n hx hb dX4_order_57 rfl (lv_at hl 0 rfl) ?_
              refine mo_get (x := .ref (ad 5)) hE iX4_order_X4 hP 5 (by decide) mX4_order_f19 rfl rfl dX4_order_58 ?_
              refine lv_sipush (v := nI 256) hx hb dX4_order_61 (by decide) ?_
              refine lv_aload_n hx hb dX4_order_64 rfl (lv_at hl 0 rfl) ?_
              refine mo_get (x := .int (v 7)) hE iX4_order_X4 hP 7 (by decide) mX4_order_f41 rfl rfl dX4_order_65 ?_
              refine rw_i (v := nI (n 1)) hV.2.1 ?_
              refine lv_imul hx hb dX4_order_68 ?_
              refine rw_i (v := nI (256 * (n 1))) (pk_mul _ _) ?_
              refine lv_iload_n hx hb dX4_order_69 rfl (lv_at hl 2 rfl) ?_
              refine lv_iadd hx hb dX4_order_70 ?_
              refine rw_i (v := nI ((256 * (n 1)) + i)) (nI_add _ _) ?_
              refine lv_iload_n hx hb dX4_order_71 rfl (lv_at hl 1 rfl) ?_
              refine lv_iconst (v := nI 2) hx hb dX4_order_72 (by decide) ?_
              refine lv_icmp_ne (tgt := 80) hx hb dX4_order_73 (by decide) (fun c_73 => ?_) (fun c_73 => ?_)
              · have k_73 : z ≠ 2 := nn_neq (a := z) (b := 2) c_73 (by omega) (by omega)
                refine lv_iload_n hx hb dX4_order_80 rfl (lv_at hl 1 rfl) ?_
                refine lv_if_ne (tgt := 88) hx hb dX4_order_81 (by decide) (fun c_81 => ?_) (fun c_81 => ?_)
                · have k_81 : z ≠ 0 := nn_neq (a := z) (b := 0) c_81 (by omega) (by omega)
                  refine lv_aload_n hx hb dX4_order_88 rfl (lv_at hl 0 rfl) ?_
                  refine lv_iload_n hx hb dX4_order_89 rfl (lv_at hl 2 rfl) ?_
                  refine mw_calli hP hS hA (va_runV (As := [.int (nI i)]) (rest := [.int (nI ((256 * (n 1)) + i)), .ref (ad 5)]) ⟨hx, hb, hml, hE.2.2.2.1, hE.2.2.1⟩ (tX4_meant l D k _ _ ad (va_up v 0 0) (va_up (va_up (va_up g 4 (upd (g 4) (n 1) (nI z))) 6 (upd (g 6) (n 1) 0)) 5 (blk (g 5) (256 * n 1) i (fo n g z))) n i hN hV ⟨hb0, hb1, hb2, hb3⟩ rfl (by omega)) (cwV 1 hE.2.2.1 gX4_order_X4_meant rfl rfl rfl (by decide +kernel) ⟨(Nat.le_of_ble_eq_true rfl), (Nat.le_of_ble_eq_true rfl)⟩) (mw_preV hE hP (ci := 5) rfl rfl mo_o [.int (nI i)]) rfl rfl hl.1 rfl (lv_room (Nat.le_of_ble_eq_true rfl)) dX4_order_90 ⟨(Nat.le_of_ble_eq_true rfl), (Nat.le_of_ble_eq_true rfl)⟩) (fun r_7 M1 H locs hw1 hP hS => ?_)
                  obtain ⟨rfl, er_7⟩ := hw1
                  have er_7 : r_7 = nI (mnt n g i) := er_7
                  refine mo_st (n := 3072) hE hN hP hS 0 5 rfl (by decide) rfl (by decide) dX4_order_93 (by omega) (fun H locs hP hS => ?_)
                  refine lv_iinc (v := nI (i + 1)) (lv' := [(2, .int (nI (i + 1))), (0, .ref (ad 0)), (1, .int (nI z))]) hx hb dX4_order_94 hl (k := 2) rfl (nI_1 i) (by decide) rfl (fun ls hl => ?_)
                  refine lv_goto (tgt := 50) hx hb dX4_order_97 (by decide) ?_
                  rw [blk_up, va_up_self, blk_s (show r_7 = fo n g z i by unfold fo; rw [if_neg k_73, if_neg k_81, er_7])] at hP
                  exact ih_50 (i + 1) (by omega) (by omega) H locs hP hS ls (lv_sub hl [1, 2, 0] rfl)
                · have k_81 : z = 0 := nn_eq (a := z) (b := 0) c_81 (by omega) (by omega)
                  refine lv_iload_n hx hb dX4_order_84 rfl (lv_at hl 2 rfl) ?_
                  refine lv_goto (tgt := 93) hx hb dX4_order_85 (by decide) ?_
                  refine mo_st (n := 3072) hE hN hP hS 0 5 rfl (by decide) rfl (by decide) dX4_order_93 (by omega) (fun H locs hP hS => ?_)
                  refine lv_iinc (v := nI (i + 1)) (lv' := [(2, .int (nI (i + 1))), (0, .ref (ad 0)), (1, .int (nI z))]) hx hb dX4_order_94 hl (k := 2) rfl (nI_1 i) (by decide) rfl (fun ls hl => ?_)
                  refine lv_goto (tgt := 50) hx hb dX4_order_97 (by decide) ?_
                  rw [blk_up, va_up_self, blk_s (show (nI i) = fo n g z i by unfold fo; rw [if_neg k_73, if_pos k_81])] at hP
                  exact ih_50 (i + 1) (by omega) (by omega) H locs hP hS ls (lv_sub hl [1, 2, 0] rfl)
              · have k_73 : z = 2 := nn_eq (a := z) (b := 2) c_73 (by omega) (by omega)
                refine lv_iconst (v := (-1)) hx hb dX4_order_76 (by decide) ?_
                refine lv_goto (tgt := 93) hx hb dX4_order_77 (by decide) ?_
                refine mo_st (n := 3072) hE hN hP hS 0 5 rfl (by decide) rfl (by decide) dX4_order_93 (by omega) (fun H locs hP hS => ?_)
                refine lv_iinc (v := nI (i + 1)) (lv' := [(2, .int (nI (i + 1))), (0, .ref (ad 0)), (1, .int (nI z))]) hx hb dX4_order_94 hl (k := 2) rfl (nI_1 i) (by decide) rfl (fun ls hl => ?_)
                refine lv_goto (tgt := 50) hx hb dX4_order_97 (by decide) ?_
                rw [blk_up, va_up_self, blk_s (show (-1) = fo n g z i by unfold fo; rw [if_pos k_73])] at hP
                exact ih_50 (i + 1) (by omega) (by omega) H locs hP hS ls (lv_sub hl [1, 2, 0] rfl)
        exact lp_50 (257) 0 (by omega) (by omega) _ _ hP hS ls (lv_sub hl [1, 2, 0] rfl)
      · have k_23 : (n 1) = 12 := nn_eq (a := (n 1)) (b := 12) c_23 (by omega) (by omega)
        refine lv_iconst (v := (-1)) hx hb dX4_order_26 (by decide) ?_
        rw [hQ]
        exact mw_iret (v := (-1)) hE hr hlocks hP hS dX4_order_27 (⟨va_up v 0 0, g, n, rfl, hV, Or.inr (Or.inl ⟨hx3, k_23, rfl, rfl, rfl⟩)⟩)
    · refine lv_bipush (v := (-4)) hx hb dX4_order_14 (by decide) ?_
      rw [hQ]
      exact mw_iret (v := (-4)) hE hr hlocks hP hS dX4_order_16 (⟨va_up v 0 0, g, n, rfl, hV, Or.inl ⟨fun q => ((rw_in1 (n := 2) (by decide)).mp q).2 (Int32.not_le.mp c_11), rfl, rfl, rfl⟩⟩)

set_option maxRecDepth 20000 in
theorem mX4_also_f19 : Cond.fieldLink RX4 19 "CodePagesModel" "ranks" "[I" ∈ wsX4_also := by decide +kernel
set_option maxRecDepth 20000 in
theorem mX4_also_f34 : Cond.fieldLink RX4 34 "CodePagesModel" "code" "I" ∈ wsX4_also := by decide +kernel
set_option maxRecDepth 20000 in
theorem iX4_also_X4 : ∀ w ∈ u_ws RX4 TX4 14, w ∈ wsX4_also := by decide +kernel
set_option maxHeartbeats 4000000 in
set_option maxRecDepth 100000 in
theorem tX4_also (l : Launch) (D : va_G) (k : Nat → ClassId) (M : mw) (sz : Nat) (ad : Nat → Nat) (v : Nat → Int32) (g : Nat → Nat → Int32) (n : Nat → Nat) (x y z : Int32) (hN : mo_N ad) (hV : mo_V v n) (hn9 : mo_B n) (hM : M = mo_M (k 0) ad v g) : Met l yX4_also wsX4_also ({ frames := 2, cells := 0, slots := 0, locals := 44 }) (va_Pc [.ref (ad 0), .int x, .int y, .int z] (mw_U D vwCl (TY k) M sz)) (va_Qi (fun r M1 => ∃ v1 g1, M1 = mo_M (k 0) ad v1 g1 ∧ mo_V v1 n ∧ R_also n g x y z r g1) (mw_B D vwCl M sz) (mw_A M sz)) 0 0 (mw_A M sz) := by
  refine mw_met (cc := cX4_also) (maxL := 5) (ret := (some .int)) (lv := [(0, .ref (ad 0)), (1, .int x), (2, .int y), (3, .int z)]) (by decide) rfl (Nat.le_of_ble_eq_true rfl) rfl ?_
  intro p e s m below meth c ls hE hr hlocks hin hml hsz hP hS hl
  subst hsz
  have hx := hE.1
  have hb := hE.2.1
  have hA : ∀ q, s.heap.size ≤ q → mw_A M s.heap.size q := fun q h => Or.inr h
  have hP : mw_Q (mw_A M s.heap.size) D vwCl (mo_M (k 0) ad v g) s.heap := by rw [← hM]; exact hP
  obtain ⟨hb0, hb1, hb2, hb3⟩ := hn9
  refine lv_aload_n hx hb dX4_also_0 rfl (lv_at hl 0 rfl) ?_
  refine lv_iconst (v := 0) hx hb dX4_also_1 (by decide) ?_
  refine mo_put hE iX4_also_X4 hP hS 0 (by decide) mX4_also_f34 rfl rfl (by decide +kernel) rfl dX4_also_2 (fun H locs hP hS => ?_)
  refine lv_aload_n hx hb dX4_also_5 rfl (lv_at hl 0 rfl) ?_
  refine lv_iload_n hx hb dX4_also_6 rfl (lv_at hl 1 rfl) ?_
  refine lv_iload_n hx hb dX4_also_7 rfl (lv_at hl 2 rfl) ?_
  refine lv_iload_n hx hb dX4_also_8 rfl (lv_at hl 3 rfl) ?_
  refine mw_calli hP hS hA (va_runV (As := [.int x, .int y, .int z]) (rest := []) ⟨hx, hb, hml, hE.2.2.2.1, hE.2.2.1⟩ (tX4_refusal l D k _ _ ad (va_up v 0 0) g n x y z hN hV ⟨hb0, hb1, hb2, hb3⟩ rfl) (cwV 3 hE.2.2.1 gX4_also_X4_refusal rfl rfl rfl (by decide +kernel) ⟨(Nat.le_of_ble_eq_true rfl), (Nat.le_of_ble_eq_true rfl)⟩) (mw_preV hE hP (ci := 5) rfl rfl mo_o [.int x, .int y, .int z]) rfl rfl hl.1 rfl (lv_room (Nat.le_of_ble_eq_true rfl)) dX4_also_9 ⟨(Nat.le_of_ble_eq_true rfl), (Nat.le_of_ble_eq_true rfl)⟩) (fun r_1 M1 H locs hw hP hS => ?_)
  obtain ⟨rfl, hw⟩ := hw
  rcases hw with ⟨q1, rfl⟩ | ⟨q1, q2, rfl⟩ | ⟨oo, i, j, hoo, hi, hj, rfl, rfl, rfl, hk2, rfl⟩ | ⟨oo, i, j, hoo, hi, hj, rfl, rfl, rfl, hk2, rfl⟩
  · skip
    refine lv_istore (lv' := [(4, .int (-2)), (0, .ref (ad 0)), (1, .int x), (2, .int y), (3, .int z)]) hx hb dX4_also_12 hl (by decide) rfl (fun ls hl => ?_)
    refine lv_iload hx hb dX4_also_14 (lv_at hl 0 rfl) ?_
    refine lv_if_eq (tgt := 22) hx hb dX4_also_16 (by decide) (fun c9 => absurd c9 (by decide)) (fun _ => ?_)
    refine lv_iload hx hb dX4_also_19 (lv_at hl 0 rfl) ?_
    exact mw_iret (v := (-2)) hE hr hlocks hP hS dX4_also_21 (⟨_, _, rfl, hV, Or.inl ⟨Or.inl ⟨q1, rfl⟩, by decide, rfl⟩⟩)
  · skip
    refine lv_istore (lv' := [(4, .int (-4)), (0, .ref (ad 0)), (1, .int x), (2, .int y), (3, .int z)]) hx hb dX4_also_12 hl (by decide) rfl (fun ls hl => ?_)
    refine lv_iload hx hb dX4_also_14 (lv_at hl 0 rfl) ?_
    refine lv_if_eq (tgt := 22) hx hb dX4_also_16 (by decide) (fun c9 => absurd c9 (by decide)) (fun _ => ?_)
    refine lv_iload hx hb dX4_also_19 (lv_at hl 0 rfl) ?_
    exact mw_iret (v := (-4)) hE hr hlocks hP hS dX4_also_21 (⟨_, _, rfl, hV, Or.inl ⟨Or.inr (Or.inl ⟨q1, q2, rfl⟩), by decide, rfl⟩⟩)
  · skip
    refine lv_istore (lv' := [(4, .int (-5)), (0, .ref (ad 0)), (1, .int (nI oo)), (2, .int (nI i)), (3, .int (nI j))]) hx hb dX4_also_12 hl (by decide) rfl (fun ls hl => ?_)
    refine lv_iload hx hb dX4_also_14 (lv_at hl 0 rfl) ?_
    refine lv_if_eq (tgt := 22) hx hb dX4_also_16 (by decide) (fun c9 => absurd c9 (by decide)) (fun _ => ?_)
    refine lv_iload hx hb dX4_also_19 (lv_at hl 0 rfl) ?_
    exact mw_iret (v := (-5)) hE hr hlocks hP hS dX4_also_21 (⟨_, _, rfl, hV, Or.inl ⟨Or.inr (Or.inr (Or.inl ⟨oo, i, j, hoo, hi, hj, rfl, rfl, rfl, hk2, rfl⟩)), by decide, rfl⟩⟩)
  · skip
    refine lv_istore (lv' := [(4, .int 0), (0, .ref (ad 0)), (1, .int (nI oo)), (2, .int (nI i)), (3, .int (nI j))]) hx hb dX4_also_12 hl (by decide) rfl (fun ls hl => ?_)
    refine lv_iload hx hb dX4_also_14 (lv_at hl 0 rfl) ?_
    refine lv_if_eq (tgt := 22) hx hb dX4_also_16 (by decide) (fun _ => ?_) (fun c9 => absurd (by decide) c9)
    refine lv_aload_n hx hb dX4_also_22 rfl (lv_at hl 1 rfl) ?_
    refine mo_get (x := .ref (ad 5)) hE iX4_also_X4 hP 5 (by decide) mX4_also_f19 rfl rfl dX4_also_23 ?_
    refine lv_sipush (v := nI 256) hx hb dX4_also_26 (by decide) ?_
    refine lv_iload_n hx hb dX4_also_29 rfl (lv_at hl 2 rfl) ?_
    refine lv_imul hx hb dX4_also_30 ?_
    refine rw_i (v := nI (256 * oo)) (pk_mul _ _) ?_
    refine lv_iload_n hx hb dX4_also_31 rfl (lv_at hl 3 rfl) ?_
    refine lv_iadd hx hb dX4_also_32 ?_
    refine rw_i (v := nI ((256 * oo) + i)) (nI_add _ _) ?_
    refine mo_ld (n := 3072) hE hN hP 0 5 rfl (by decide) rfl (by decide) dX4_also_33 (by omega) ?_
    refine lv_iconst (v := (-1)) hx hb dX4_also_34 (by decide) ?_
    refine lv_icmp_eq (tgt := 54) hx hb dX4_also_35 (by decide) (fun c_35 => ?_) (fun c_35 => ?_)
    · refine lv_iconst (v := 0) hx hb dX4_also_54 (by decide) ?_
      exact mw_iret (v := 0) hE hr hlocks hP hS dX4_also_55 (⟨_, _, rfl, hV, Or.inr ⟨oo, i, j, hoo, hi, hj, rfl, rfl, rfl, hk2, Or.inl ⟨Or.inl c_35, rfl, rfl⟩⟩⟩)
    · refine lv_aload_n hx hb dX4_also_38 rfl (lv_at hl 1 rfl) ?_
      refine mo_get (x := .ref (ad 5)) hE iX4_also_X4 hP 5 (by decide) mX4_also_f19 rfl rfl dX4_also_39 ?_
      refine lv_sipush (v := nI 256) hx hb dX4_also_42 (by decide) ?_
      refine lv_iload_n hx hb dX4_also_45 rfl (lv_at hl 2 rfl) ?_
      refine lv_imul hx hb dX4_also_46 ?_
      refine rw_i (v := nI (256 * oo)) (pk_mul _ _) ?_
      refine lv_iload_n hx hb dX4_also_47 rfl (lv_at hl 4 rfl) ?_
      refine lv_iadd hx hb dX4_also_48 ?_
      refine rw_i (v := nI ((256 * oo) + j)) (nI_add _ _) ?_
      refine mo_ld (n := 3072) hE hN hP 0 5 rfl (by decide) rfl (by decide) dX4_also_49 (by omega) ?_
      refine lv_iconst (v := (-1)) hx hb dX4_also_50 (by decide) ?_
      refine lv_icmp_eq (tgt := 56) hx hb dX4_also_51 (by decide) (fun c_51 => ?_) (fun c_51 => ?_)
      · refine lv_aload_n hx hb dX4_also_56 rfl (lv_at hl 1 rfl) ?_
        refine mo_get (x := .ref (ad 5)) hE iX4_also_X4 hP 5 (by decide) mX4_also_f19 rfl rfl dX4_also_57 ?_
        refine lv_sipush (v := nI 256) hx hb dX4_also_60 (by decide) ?_
        refine lv_iload_n hx hb dX4_also_63 rfl (lv_at hl 2 rfl) ?_
        refine lv_imul hx hb dX4_also_64 ?_
        refine rw_i (v := nI (256 * oo)) (pk_mul _ _) ?_
        refine lv_iload_n hx hb dX4_also_65 rfl (lv_at hl 4 rfl) ?_
        refine lv_iadd hx hb dX4_also_66 ?_
        refine rw_i (v := nI ((256 * oo) + j)) (nI_add _ _) ?_
        refine lv_aload_n hx hb dX4_also_67 rfl (lv_at hl 1 rfl) ?_
        refine mo_get (x := .ref (ad 5)) hE iX4_also_X4 hP 5 (by decide) mX4_also_f19 rfl rfl dX4_also_68 ?_
        refine lv_sipush (v := nI 256) hx hb dX4_also_71 (by decide) ?_
        refine lv_iload_n hx hb dX4_also_74 rfl (lv_at hl 2 rfl) ?_
        refine lv_imul hx hb dX4_also_75 ?_
        refine rw_i (v := nI (256 * oo)) (pk_mul _ _) ?_
        refine lv_iload_n hx hb dX4_also_76 rfl (lv_at hl 3 rfl) ?_
        refine lv_iadd hx hb dX4_also_77 ?_
        refine rw_i (v := nI ((256 * oo) + i)) (nI_add _ _) ?_
        refine mo_ld (n := 3072) hE hN hP 0 5 rfl (by decide) rfl (by decide) dX4_also_78 (by omega) ?_
        refine mo_st (n := 3072) hE hN hP hS 0 5 rfl (by decide) rfl (by decide) dX4_also_79 (by omega) (fun H locs hP hS => ?_)
        refine lv_iconst (v := 1) hx hb dX4_also_80 (by decide) ?_
        exact mw_iret (v := 1) hE hr hlocks hP hS dX4_also_81 (⟨_, _, rfl, hV, Or.inr ⟨oo, i, j, hoo, hi, hj, rfl, rfl, rfl, hk2, Or.inr ⟨⟨c_35, c_51⟩, rfl, rfl⟩⟩⟩)
      · refine lv_iconst (v := 0) hx hb dX4_also_54 (by decide) ?_
        exact mw_iret (v := 0) hE hr hlocks hP hS dX4_also_55 (⟨_, _, rfl, hV, Or.inr ⟨oo, i, j, hoo, hi, hj, rfl, rfl, rfl, hk2, Or.inl ⟨Or.inr c_51, rfl, rfl⟩⟩⟩)

set_option maxRecDepth 20000 in
theorem mX4_through_f19 : Cond.fieldLink RX4 19 "CodePagesModel" "ranks" "[I" ∈ wsX4_through := by decide +kernel
set_option maxRecDepth 20000 in
theorem mX4_through_f22 : Cond.fieldLink RX4 22 "CodePagesModel" "next" "[I" ∈ wsX4_through := by decide +kernel
set_option maxRecDepth 20000 in
theorem mX4_through_f34 : Cond.fieldLink RX4 34 "CodePagesModel" "code" "I" ∈ wsX4_through := by decide +kernel
set_option maxRecDepth 20000 in
theorem iX4_through_X4 : ∀ w ∈ u_ws RX4 TX4 14, w ∈ wsX4_through := by decide +kernel
set_option maxHeartbeats 4000000 in
set_option maxRecDepth 100000 in
theorem tX4_through (l : Launch) (D : va_G) (k : Nat → ClassId) (M : mw) (sz : Nat) (ad : Nat → Nat) (v : Nat → Int32) (g : Nat → Nat → Int32) (n : Nat → Nat) (x y z : Int32) (hN : mo_N ad) (hV : mo_V v n) (hn9 : mo_B n) (hM : M = mo_M (k 0) ad v g) : Met l yX4_through wsX4_through ({ frames := 2, cells := 0, slots := 0, locals := 44 }) (va_Pc [.ref (ad 0), .int x, .int y, .int z] (mw_U D vwCl (TY k) M sz)) (va_Qi (fun r M1 => ∃ v1 g1, M1 = mo_M (k 0) ad v1 g1 ∧ mo_V v1 n ∧ R_through n g x y z r g1) (mw_B D vwCl M sz) (mw_A M sz)) 0 0 (mw_A M sz) := by
  refine mw_met (cc := cX4_through) (maxL := 8) (ret := (some .int)) (lv := [(0, .ref (ad 0)), (1, .int x), (2, .int y), (3, .int z)]) (by decide) rfl (Nat.le_of_ble_eq_true rfl) rfl ?_
  intro p e s m below meth c ls hE hr hlocks hin hml hsz hP hS hl
  subst hsz
  have hx := hE.1
  have hb := hE.2.1
  have hA : ∀ q, s.heap.size ≤ q → mw_A M s.heap.size q := fun q h => Or.inr h
  obtain ⟨Q, hQ⟩ : ∃ Q : State → Prop, Q = MQ below (va_Qi (fun r M1 => ∃ v1 g1, M1 = mo_M (k 0) ad v1 g1 ∧ mo_V v1 n ∧ R_through n g x y z r g1) (mw_B D vwCl M s.heap.size) (mw_A M s.heap.size)) ([.ref (ad 0), .int x, .int y, .int z] : List Value).toArray s 0 0 (mw_A M s.heap.size) := ⟨_, rfl⟩
  rw [← hQ]
  have hP : mw_Q (mw_A M s.heap.size) D vwCl (mo_M (k 0) ad v g) s.heap := by rw [← hM]; exact hP
  obtain ⟨hb0, hb1, hb2, hb3⟩ := hn9
  refine lv_aload_n hx hb dX4_through_0 rfl (lv_at hl 0 rfl) ?_
  refine lv_iconst (v := 0) hx hb dX4_through_1 (by decide) ?_
  refine mo_put hE iX4_through_X4 hP hS 0 (by decide) mX4_through_f34 rfl rfl (by decide +kernel) rfl dX4_through_2 (fun H locs hP hS => ?_)
  refine lv_aload_n hx hb dX4_through_5 rfl (lv_at hl 0 rfl) ?_
  refine lv_iload_n hx hb dX4_through_6 rfl (lv_at hl 1 rfl) ?_
  refine lv_iload_n hx hb dX4_through_7 rfl (lv_at hl 2 rfl) ?_
  refine lv_iload_n hx hb dX4_through_8 rfl (lv_at hl 3 rfl) ?_
  refine mw_calli hP hS hA (va_runV (As := [.int x, .int y, .int z]) (rest := []) ⟨hx, hb, hml, hE.2.2.2.1, hE.2.2.1⟩ (tX4_refusal l D k _ _ ad (va_up v 0 0) g n x y z hN hV ⟨hb0, hb1, hb2, hb3⟩ rfl) (cwV 3 hE.2.2.1 gX4_through_X4_refusal rfl rfl rfl (by decide +kernel) ⟨(Nat.le_of_ble_eq_true rfl), (Nat.le_of_ble_eq_true rfl)⟩) (mw_preV hE hP (ci := 5) rfl rfl mo_o [.int x, .int y, .int z]) rfl rfl hl.1 rfl (lv_room (Nat.le_of_ble_eq_true rfl)) dX4_through_9 ⟨(Nat.le_of_ble_eq_true rfl), (Nat.le_of_ble_eq_true rfl)⟩) (fun r_1 M1 H locs hw hP hS => ?_)
  obtain ⟨rfl, hw⟩ := hw
  rcases hw with ⟨q1, rfl⟩ | ⟨q1, q2, rfl⟩ | ⟨oo, i, j, hoo, hi, hj, rfl, rfl, rfl, hk2, rfl⟩ | ⟨oo, i, j, hoo, hi, hj, rfl, rfl, rfl, hk2, rfl⟩
  · skip
    refine lv_istore (lv' := [(4, .int (-2)), (0, .ref (ad 0)), (1, .int x), (2, .int y), (3, .int z)]) hx hb dX4_through_12 hl (by decide) rfl (fun ls hl => ?_)
    refine lv_iload hx hb dX4_through_14 (lv_at hl 0 rfl) ?_
    refine lv_if_eq (tgt := 22) hx hb dX4_through_16 (by decide) (fun c9 => absurd c9 (by decide)) (fun _ => ?_)
    refine lv_iload hx hb dX4_through_19 (lv_at hl 0 rfl) ?_
    rw [hQ]
    exact mw_iret (v := (-2)) hE hr hlocks hP hS dX4_through_21 (⟨_, _, rfl, hV, Or.inl ⟨Or.inl ⟨q1, rfl⟩, by decide, rfl⟩⟩)
  · skip
    refine lv_istore (lv' := [(4, .int (-4)), (0, .ref (ad 0)), (1, .int x), (2, .int y), (3, .int z)]) hx hb dX4_through_12 hl (by decide) rfl (fun ls hl => ?_)
    refine lv_iload hx hb dX4_through_14 (lv_at hl 0 rfl) ?_
    refine lv_if_eq (tgt := 22) hx hb dX4_through_16 (by decide) (fun c9 => absurd c9 (by decide)) (fun _ => ?_)
    refine lv_iload hx hb dX4_through_19 (lv_at hl 0 rfl) ?_
    rw [hQ]
    exact mw_iret (v := (-4)) hE hr hlocks hP hS dX4_through_21 (⟨_, _, rfl, hV, Or.inl ⟨Or.inr (Or.inl ⟨q1, q2, rfl⟩), by decide, rfl⟩⟩)
  · skip
    refine lv_istore (lv' := [(4, .int (-5)), (0, .ref (ad 0)), (1, .int (nI oo)), (2, .int (nI i)), (3, .int (nI j))]) hx hb dX4_through_12 hl (by decide) rfl (fun ls hl => ?_)
    refine lv_iload hx hb dX4_through_14 (lv_at hl 0 rfl) ?_
    refine lv_if_eq (tgt := 22) hx hb dX4_through_16 (by decide) (fun c9 => absurd c9 (by decide)) (fun _ => ?_)
    refine lv_iload hx hb dX4_through_19 (lv_at hl 0 rfl) ?_
    rw [hQ]
    exact mw_iret (v := (-5)) hE hr hlocks hP hS dX4_through_21 (⟨_, _, rfl, hV, Or.inl ⟨Or.inr (Or.inr (Or.inl ⟨oo, i, j, hoo, hi, hj, rfl, rfl, rfl, hk2, rfl⟩)), by decide, rfl⟩⟩)
  · skip
    refine lv_istore (lv' := [(4, .int 0), (0, .ref (ad 0)), (1, .int (nI oo)), (2, .int (nI i)), (3, .int (nI j))]) hx hb dX4_through_12 hl (by decide) rfl (fun ls hl => ?_)
    refine lv_iload hx hb dX4_through_14 (lv_at hl 0 rfl) ?_
    refine lv_if_eq (tgt := 22) hx hb dX4_through_16 (by decide) (fun _ => ?_) (fun c9 => absurd (by decide) c9)
    refine lv_iload_n hx hb dX4_through_22 rfl (lv_at hl 3 rfl) ?_
    refine lv_iload_n hx hb dX4_through_23 rfl (lv_at hl 4 rfl) ?_
    refine lv_icmp_le (tgt := 31) hx hb dX4_through_24 (by decide) (fun c_24 => ?_) (fun c_24 => ?_)
    · have k_24 : i ≤ j := nn_le (a := i) (b := j) c_24 (by omega) (by omega)
      refine lv_iconst (v := 1) hx hb dX4_through_31 (by decide) ?_
      refine lv_istore (lv' := [(5, .int 1), (4, .int 0), (0, .ref (ad 0)), (1, .int (nI oo)), (2, .int (nI i)), (3, .int (nI j))]) hx hb dX4_through_32 hl (by decide) rfl (fun ls hl => ?_)
      refine lv_iload_n hx hb dX4_through_34 rfl (lv_at hl 4 rfl) ?_
      refine lv_iload_n hx hb dX4_through_35 rfl (lv_at hl 5 rfl) ?_
      refine lv_icmp_le (tgt := 47) hx hb dX4_through_36 (by decide) (fun c_36 => ?_) (fun c_36 => absurd c_24 c_36)
      have k_36 : i ≤ j := nn_le (a := i) (b := j) c_36 (by omega) (by omega)
      refine lv_iload_n hx hb dX4_through_47 rfl (lv_at hl 5 rfl) ?_
      refine lv_iload_n hx hb dX4_through_48 rfl (lv_at hl 4 rfl) ?_
      refine lv_isub hx hb dX4_through_49 ?_
      refine rw_i (v := nI (j - i)) (pk_sub (by omega)) ?_
      refine lv_iconst (v := 1) hx hb dX4_through_50 (by decide) ?_
      refine lv_iadd hx hb dX4_through_51 ?_
      refine rw_i (v := nI ((j - i) + 1)) (nI_1 _) ?_
      refine lv_istore (lv' := [(6, .int (nI ((j - i) + 1))), (5, .int 1), (4, .int 0), (0, .ref (ad 0)), (1, .int (nI oo)), (2, .int (nI i)), (3, .int (nI j))]) hx hb dX4_through_52 hl (by decide) rfl (fun ls hl => ?_)
      refine lv_iconst (v := 0) hx hb dX4_through_54 (by decide) ?_
      refine lv_istore (lv' := [(7, .int 0), (6, .int (nI ((j - i) + 1))), (5, .int 1), (4, .int 0), (0, .ref (ad 0)), (1, .int (nI oo)), (2, .int (nI i)), (3, .int (nI j))]) hx hb dX4_through_55 hl (by decide) rfl (fun ls hl => ?_)
      have lp_57 : ∀ (fu : Nat) (kk : Nat), (kk ≤ j - i + 1) → (∀ q, q < kk → g 5 (256 * oo + tix true i q) = -1) → (j - i + 1) - kk < fu → ∀ (H : Heap) (locs : List Loc), mw_Q (mw_A M s.heap.size) D vwCl (mo_M (k 0) ad (va_up v 0 0) g) H → va_S (mw_A M s.heap.size) s.heap H locs → ∀ ls : Array Slot, lv_has ls 8 [(0, .ref (ad 0)), (1, .int (nI oo)), (2, .int (nI i)), (3, .int (nI j)), (5, .int 1), (6, .int (nI (j - i + 1))), (7, .int (nI kk))] → W p l e ({ frames := 2, cells := 0, slots := 0, locals := 44 } : Room) s m ([.ref (ad 0), .int (nI oo), .int (nI i), .int (nI j)] : List Value).toArray below meth c H locs 0 0 Q (F0 m 57 ls []) := by
        intro fu
        induction fu with
        | zero => intro kk hkk hal hn; exact absurd hn (Nat.not_lt_zero _)
        | succ fu ih_57 =>
          intro kk hkk hal hn H locs hP hS ls hl
          refine lv_iload hx hb dX4_through_57 (lv_at hl 6 rfl) ?_
          refine lv_iload hx hb dX4_through_59 (lv_at hl 5 rfl) ?_
          refine lv_icmp_ge (tgt := 94) hx hb dX4_through_61 (by decide) (fun c_61 => ?_) (fun c_61 => ?_)
          · have k_61 : (j - i + 1) ≤ kk := nn_le (a := (j - i + 1)) (b := kk) c_61 (by omega) (by omega)
            have hal9 : ∀ q, q < tcn true i j → g 5 (256 * oo + tix true i q) = -1 := fun q h => hal q (by have h : q < j - i + 1 := h; omega)
            refine lv_iconst (v := 0) hx hb dX4_through_94 (by decide) ?_
            refine lv_istore (lv' := [(7, .int 0), (0, .ref (ad 0)), (1, .int (nI oo)), (2, .int (nI i)), (3, .int (nI j)), (5, .int 1), (6, .int (nI (j - i + 1)))]) hx hb dX4_through_95 hl (by decide) rfl (fun ls hl => ?_)
            have lp_97 : ∀ (fu : Nat) (kk : Nat), (kk ≤ j - i + 1) → (j - i + 1) - kk < fu → ∀ (H : Heap) (locs : List Loc), mw_Q (mw_A M s.heap.size) D vwCl (mo_M (k 0) ad (va_up v 0 0) (thg g oo true i kk)) H → va_S (mw_A M s.heap.size) s.heap H locs → ∀ ls : Array Slot, lv_has ls 8 [(0, .ref (ad 0)), (1, .int (nI oo)), (2, .int (nI i)), (3, .int (nI j)), (5, .int 1), (6, .int (nI (j - i + 1))), (7, .int (nI kk))] → W p l e ({ frames := 2, cells := 0, slots := 0, locals := 44 } : Room) s m ([.ref (ad 0), .int (nI oo), .int (nI i), .int (nI j)] : List Value).toArray below meth c H locs 0 0 Q (F0 m 97 ls []) := by
              intro fu
              induction fu with
              | zero => intro kk hkk hn; exact absurd hn (Nat.not_lt_zero _)
              | succ fu ih_97 =>
                intro kk hkk hn H locs hP hS ls hl
                refine lv_iload hx hb dX4_through_97 (lv_at hl 6 rfl) ?_
                refine lv_iload hx hb dX4_through_99 (lv_at hl 5 rfl) ?_
                refine lv_icmp_ge (tgt := 144) hx hb dX4_through_101 (by decide) (fun c_101 => ?_) (fun c_101 => ?_)
                · have k_101 : (j - i + 1) ≤ kk := nn_le (a := (j - i + 1)) (b := kk) c_101 (by omega) (by omega)
                  refine lv_iload hx hb dX4_through_144 (lv_at hl 5 rfl) ?_
                  rw [hQ]
                  exact mw_iret (v := nI (j - i + 1)) hE hr hlocks hP hS dX4_through_146 (⟨_, _, rfl, hV, Or.inr ⟨oo, i, j, true, hoo, hi, hj, rfl, rfl, rfl, hk2, ⟨fun _ => by omega, fun _ => rfl⟩, Or.inr ⟨hal9, rfl, by rw [show kk = tcn true i j from (by show kk = j - i + 1; omega)]⟩⟩⟩)
                · have k_101 : kk < (j - i + 1) := nn_nle (a := (j - i + 1)) (b := kk) c_101 (by omega) (by omega)
                  refine lv_aload_n hx hb dX4_through_104 rfl (lv_at hl 0 rfl) ?_
                  refine mo_get (x := .ref (ad 5)) hE iX4_through_X4 hP 5 (by decide) mX4_through_f19 rfl rfl dX4_through_105 ?_
                  refine lv_sipush (v := nI 256) hx hb dX4_through_108 (by decide) ?_
                  refine lv_iload_n hx hb dX4_through_111 rfl (lv_at hl 1 rfl) ?_
                  refine lv_imul hx hb dX4_through_112 ?_
                  refine rw_i (v := nI (256 * oo)) (pk_mul _ _) ?_
                  refine lv_iload_n hx hb dX4_through_113 rfl (lv_at hl 2 rfl) ?_
                  refine lv_iadd hx hb dX4_through_114 ?_
                  refine rw_i (v := nI ((256 * oo) + i)) (nI_add _ _) ?_
                  refine lv_iload hx hb dX4_through_115 (lv_at hl 6 rfl) ?_
                  refine lv_iload hx hb dX4_through_117 (lv_at hl 4 rfl) ?_
                  refine lv_imul hx hb dX4_through_119 ?_
                  refine rw_i (v := nI kk) (Int32.mul_one _) ?_
                  refine lv_iadd hx hb dX4_through_120 ?_
                  refine rw_i (v := nI (256 * oo + tix true i kk)) (by rw [nI_add]; exact congrArg nI (by show 256 * oo + i + kk = 256 * oo + (i + kk); omega)) ?_
                  refine lv_aload_n hx hb dX4_through_121 rfl (lv_at hl 0 rfl) ?_
                  refine mo_get (x := .ref (ad 6)) hE iX4_through_X4 hP 6 (by decide) mX4_through_f22 rfl rfl dX4_through_122 ?_
                  refine lv_iload_n hx hb dX4_through_125 rfl (lv_at hl 1 rfl) ?_
                  refine mo_ld (n := 12) hE hN hP 0 6 rfl (by decide) rfl (by decide) dX4_through_126 (by omega) ?_
                  refine mo_st (n := 3072) hE hN hP hS 0 5 rfl (by decide) rfl (by decide) dX4_through_127 (by have := hkk; unfold tix; dsimp only; omega) (fun H locs hP hS => ?_)
                  refine lv_aload_n hx hb dX4_through_128 rfl (lv_at hl 0 rfl) ?_
                  refine mo_get (x := .ref (ad 6)) hE iX4_through_X4 hP 6 (by decide) mX4_through_f22 rfl rfl dX4_through_129 ?_
                  refine lv_iload_n hx hb dX4_through_132 rfl (lv_at hl 1 rfl) ?_
                  refine lv_dup2_11 hx hb dX4_through_133 rfl rfl ?_
                  refine mo_ld (n := 12) hE hN hP 0 6 rfl (by decide) rfl (by decide) dX4_through_134 (by omega) ?_
                  refine rw_i (v := ((thg g oo true i kk) 6) oo) rfl ?_
                  refine lv_iconst (v := 1) hx hb dX4_through_135 (by decide) ?_
                  refine lv_iadd hx hb dX4_through_136 ?_
                  refine mo_st (n := 12) hE hN hP hS 0 6 rfl (by decide) rfl (by decide) dX4_through_137 (by omega) (fun H locs hP hS => ?_)
                  refine lv_iinc (v := nI (kk + 1)) (lv' := [(7, .int (nI (kk + 1))), (0, .ref (ad 0)), (1, .int (nI oo)), (2, .int (nI i)), (3, .int (nI j)), (5, .int 1), (6, .int (nI (j - i + 1)))]) hx hb dX4_through_138 hl (k := 6) rfl (nI_1 kk) (by decide) rfl (fun ls hl => ?_)
                  refine lv_goto (tgt := 97) hx hb dX4_through_141 (by decide) ?_
                  exact ih_97 (kk + 1) (by omega) (by omega) H locs hP hS ls (lv_sub hl [1, 2, 3, 4, 5, 6, 0] rfl)
            exact lp_97 (300) 0 (by omega) (by omega) _ _ hP hS ls (lv_sub hl [1, 2, 3, 4, 5, 6, 0] rfl)
          · have k_61 : kk < (j - i + 1) := nn_nle (a := (j - i + 1)) (b := kk) c_61 (by omega) (by omega)
            refine lv_aload_n hx hb dX4_through_64 rfl (lv_at hl 0 rfl) ?_
            refine mo_get (x := .ref (ad 5)) hE iX4_through_X4 hP 5 (by decide) mX4_through_f19 rfl rfl dX4_through_65 ?_
            refine lv_sipush (v := nI 256) hx hb dX4_through_68 (by decide) ?_
            refine lv_iload_n hx hb dX4_through_71 rfl (lv_at hl 1 rfl) ?_
            refine lv_imul hx hb dX4_through_72 ?_
            refine rw_i (v := nI (256 * oo)) (pk_mul _ _) ?_
            refine lv_iload_n hx hb dX4_through_73 rfl (lv_at hl 2 rfl) ?_
            refine lv_iadd hx hb dX4_through_74 ?_
            refine rw_i (v := nI ((256 * oo) + i)) (nI_add _ _) ?_
            refine lv_iload hx hb dX4_through_75 (lv_at hl 6 rfl) ?_
            refine lv_iload hx hb dX4_through_77 (lv_at hl 4 rfl) ?_
            refine lv_imul hx hb dX4_through_79 ?_
            refine rw_i (v := nI kk) (Int32.mul_one _) ?_
            refine lv_iadd hx hb dX4_through_80 ?_
            refine rw_i (v := nI (256 * oo + tix true i kk)) (by rw [nI_add]; exact congrArg nI (by show 256 * oo + i + kk = 256 * oo + (i + kk); omega)) ?_
            refine mo_ld (n := 3072) hE hN hP 0 5 rfl (by decide) rfl (by decide) dX4_through_81 (by have := hkk; unfold tix; dsimp only; omega) ?_
            refine lv_iconst (v := (-1)) hx hb dX4_through_82 (by decide) ?_
            refine lv_icmp_eq (tgt := 88) hx hb dX4_through_83 (by decide) (fun c_83 => ?_) (fun c_83 => ?_)
            · refine lv_iinc (v := nI (kk + 1)) (lv' := [(7, .int (nI (kk + 1))), (0, .ref (ad 0)), (1, .int (nI oo)), (2, .int (nI i)), (3, .int (nI j)), (5, .int 1), (6, .int (nI (j - i + 1)))]) hx hb dX4_through_88 hl (k := 6) rfl (nI_1 kk) (by decide) rfl (fun ls hl => ?_)
              refine lv_goto (tgt := 57) hx hb dX4_through_91 (by decide) ?_
              exact ih_57 (kk + 1) (by omega) (lt_s (p := fun q => g 5 (256 * oo + tix true i q) = -1) hal c_83) (by omega) H locs hP hS ls (lv_sub hl [1, 2, 3, 4, 5, 6, 0] rfl)
            · refine lv_iconst (v := 0) hx hb dX4_through_86 (by decide) ?_
              rw [hQ]
              exact mw_iret (v := 0) hE hr hlocks hP hS dX4_through_87 (⟨_, _, rfl, hV, Or.inr ⟨oo, i, j, true, hoo, hi, hj, rfl, rfl, rfl, hk2, ⟨fun _ => by omega, fun _ => rfl⟩, Or.inl ⟨⟨kk, k_61, c_83⟩, rfl, rfl⟩⟩⟩)
      exact lp_57 (300) 0 (by omega) (fun q h => absurd h (Nat.not_lt_zero _)) (by omega) _ _ hP hS ls (lv_sub hl [4, 5, 6, 7, 2, 1, 0] rfl)
    · have k_24 : j < i := nn_nle (a := i) (b := j) c_24 (by omega) (by omega)
      refine lv_iconst (v := (-1)) hx hb dX4_through_27 (by decide) ?_
      refine lv_goto (tgt := 32) hx hb dX4_through_28 (by decide) ?_
      refine lv_istore (lv' := [(5, .int (-1)), (4, .int 0), (0, .ref (ad 0)), (1, .int (nI oo)), (2, .int (nI i)), (3, .int (nI j))]) hx hb dX4_through_32 hl (by decide) rfl (fun ls hl => ?_)
      refine lv_iload_n hx hb dX4_through_34 rfl (lv_at hl 4 rfl) ?_
      refine lv_iload_n hx hb dX4_through_35 rfl (lv_at hl 5 rfl) ?_
      refine lv_icmp_le (tgt := 47) hx hb dX4_through_36 (by decide) (fun c_36 => absurd c_36 c_24) (fun c_36 => ?_)
      have k_36 : j < i := nn_nle (a := i) (b := j) c_36 (by omega) (by omega)
      refine lv_iload_n hx hb dX4_through_39 rfl (lv_at hl 4 rfl) ?_
      refine lv_iload_n hx hb dX4_through_40 rfl (lv_at hl 5 rfl) ?_
      refine lv_isub hx hb dX4_through_41 ?_
      refine rw_i (v := nI (i - j)) (pk_sub (by omega)) ?_
      refine lv_iconst (v := 1) hx hb dX4_through_42 (by decide) ?_
      refine lv_iadd hx hb dX4_through_43 ?_
      refine rw_i (v := nI ((i - j) + 1)) (nI_1 _) ?_
      refine lv_goto (tgt := 52) hx hb dX4_through_44 (by decide) ?_
      refine lv_istore (lv' := [(6, .int (nI ((i - j) + 1))), (5, .int (-1)), (4, .int 0), (0, .ref (ad 0)), (1, .int (nI oo)), (2, .int (nI i)), (3, .int (nI j))]) hx hb dX4_through_52 hl (by decide) rfl (fun ls hl => ?_)
      refine lv_iconst (v := 0) hx hb dX4_through_54 (by decide) ?_
      refine lv_istore (lv' := [(7, .int 0), (6, .int (nI ((i - j) + 1))), (5, .int (-1)), (4, .int 0), (0, .ref (ad 0)), (1, .int (nI oo)), (2, .int (nI i)), (3, .int (nI j))]) hx hb dX4_through_55 hl (by decide) rfl (fun ls hl => ?_)
      have lp_57 : ∀ (fu : Nat) (kk : Nat), (kk ≤ i - j + 1) → (∀ q, q < kk → g 5 (256 * oo + tix false i q) = -1) → (i - j + 1) - kk < fu → ∀ (H : Heap) (locs : List Loc), mw_Q (mw_A M s.heap.size) D vwCl (mo_M (k 0) ad (va_up v 0 0) g) H → va_S (mw_A M s.heap.size) s.heap H locs → ∀ ls : Array Slot, lv_has ls 8 [(0, .ref (ad 0)), (1, .int (nI oo)), (2, .int (nI i)), (3, .int (nI j)), (5, .int (-1)), (6, .int (nI (i - j + 1))), (7, .int (nI kk))] → W p l e ({ frames := 2, cells := 0, slots := 0, locals := 44 } : Room) s m ([.ref (ad 0), .int (nI oo), .int (nI i), .int (nI j)] : List Value).toArray below meth c H locs 0 0 Q (F0 m 57 ls []) := by
        intro fu
        induction fu with
        | zero => intro kk hkk hal hn; exact absurd hn (Nat.not_lt_zero _)
        | succ fu ih_57 =>
          intro kk hkk hal hn H locs hP hS ls hl
          refine lv_iload hx hb dX4_through_57 (lv_at hl 6 rfl) ?_
          refine lv_iload hx hb dX4_through_59 (lv_at hl 5 rfl) ?_
          refine lv_icmp_ge (tgt := 94) hx hb dX4_through_61 (by decide) (fun c_61 => ?_) (fun c_61 => ?_)
          · have k_61 : (i - j + 1) ≤ kk := nn_le (a := (i - j + 1)) (b := kk) c_61 (by omega) (by omega)
            have hal9 : ∀ q, q < tcn false i j → g 5 (256 * oo + tix false i q) = -1 := fun q h => hal q (by have h : q < i - j + 1 := h; omega)
            refine lv_iconst (v := 0) hx hb dX4_through_94 (by decide) ?_
            refine lv_istore (lv' := [(7, .int 0), (0, .ref (ad 0)), (1, .int (nI oo)), (2, .int (nI i)), (3, .int (nI j)), (5, .int (-1)), (6, .int (nI (i - j + 1)))]) hx hb dX4_through_95 hl (by decide) rfl (fun ls hl => ?_)
            have lp_97 : ∀ (fu : Nat) (kk : Nat), (kk ≤ i - j + 1) → (i - j + 1) - kk < fu → ∀ (H : Heap) (locs : List Loc), mw_Q (mw_A M s.heap.size) D vwCl (mo_M (k 0) ad (va_up v 0 0) (thg g oo false i kk)) H → va_S (mw_A M s.heap.size) s.heap H locs → ∀ ls : Array Slot, lv_has ls 8 [(0, .ref (ad 0)), (1, .int (nI oo)), (2, .int (nI i)), (3, .int (nI j)), (5, .int (-1)), (6, .int (nI (i - j + 1))), (7, .int (nI kk))] → W p l e ({ frames := 2, cells := 0, slots := 0, locals := 44 } : Room) s m ([.ref (ad 0), .int (nI oo), .int (nI i), .int (nI j)] : List Value).toArray below meth c H locs 0 0 Q (F0 m 97 ls []) := by
              intro fu
              induction fu with
              | zero => intro kk hkk hn; exact absurd hn (Nat.not_lt_zero _)
              | succ fu ih_97 =>
                intro kk hkk hn H locs hP hS ls hl
                refine lv_iload hx hb dX4_through_97 (lv_at hl 6 rfl) ?_
                refine lv_iload hx hb dX4_through_99 (lv_at hl 5 rfl) ?_
                refine lv_icmp_ge (tgt := 144) hx hb dX4_through_101 (by decide) (fun c_101 => ?_) (fun c_101 => ?_)
                · have k_101 : (i - j + 1) ≤ kk := nn_le (a := (i - j + 1)) (b := kk) c_101 (by omega) (by omega)
                  refine lv_iload hx hb dX4_through_144 (lv_at hl 5 rfl) ?_
                  rw [hQ]
                  exact mw_iret (v := nI (i - j + 1)) hE hr hlocks hP hS dX4_through_146 (⟨_, _, rfl, hV, Or.inr ⟨oo, i, j, false, hoo, hi, hj, rfl, rfl, rfl, hk2, ⟨fun h => absurd h (by decide), fun h => absurd h (by omega)⟩, Or.inr ⟨hal9, rfl, by rw [show kk = tcn false i j from (by show kk = i - j + 1; omega)]⟩⟩⟩)
                · have k_101 : kk < (i - j + 1) := nn_nle (a := (i - j + 1)) (b := kk) c_101 (by omega) (by omega)
                  refine lv_aload_n hx hb dX4_through_104 rfl (lv_at hl 0 rfl) ?_
                  refine mo_get (x := .ref (ad 5)) hE iX4_through_X4 hP 5 (by decide) mX4_through_f19 rfl rfl dX4_through_105 ?_
                  refine lv_sipush (v := nI 256) hx hb dX4_through_108 (by decide) ?_
                  refine lv_iload_n hx hb dX4_through_111 rfl (lv_at hl 1 rfl) ?_
                  refine lv_imul hx hb dX4_through_112 ?_
                  refine rw_i (v := nI (256 * oo)) (pk_mul _ _) ?_
                  refine lv_iload_n hx hb dX4_through_113 rfl (lv_at hl 2 rfl) ?_
                  refine lv_iadd hx hb dX4_through_114 ?_
                  refine rw_i (v := nI ((256 * oo) + i)) (nI_add _ _) ?_
                  refine lv_iload hx hb dX4_through_115 (lv_at hl 6 rfl) ?_
                  refine lv_iload hx hb dX4_through_117 (lv_at hl 4 rfl) ?_
                  refine lv_imul hx hb dX4_through_119 ?_
                  refine rw_i (v := nI kk * (-1)) rfl ?_
                  refine lv_iadd hx hb dX4_through_120 ?_
                  refine rw_i (v := nI (256 * oo + tix false i kk)) (by rw [nI_dn (by omega)]; exact congrArg nI (by show 256 * oo + i - kk = 256 * oo + (i - kk); omega)) ?_
                  refine lv_aload_n hx hb dX4_through_121 rfl (lv_at hl 0 rfl) ?_
                  refine mo_get (x := .ref (ad 6)) hE iX4_through_X4 hP 6 (by decide) mX4_through_f22 rfl rfl dX4_through_122 ?_
                  refine lv_iload_n hx hb dX4_through_125 rfl (lv_at hl 1 rfl) ?_
                  refine mo_ld (n := 12) hE hN hP 0 6 rfl (by decide) rfl (by decide) dX4_through_126 (by omega) ?_
                  refine mo_st (n := 3072) hE hN hP hS 0 5 rfl (by decide) rfl (by decide) dX4_through_127 (by have := hkk; unfold tix; dsimp only; omega) (fun H locs hP hS => ?_)
                  refine lv_aload_n hx hb dX4_through_128 rfl (lv_at hl 0 rfl) ?_
                  refine mo_get (x := .ref (ad 6)) hE iX4_through_X4 hP 6 (by decide) mX4_through_f22 rfl rfl dX4_through_129 ?_
                  refine lv_iload_n hx hb dX4_through_132 rfl (lv_at hl 1 rfl) ?_
                  refine lv_dup2_11 hx hb dX4_through_133 rfl rfl ?_
                  refine mo_ld (n := 12) hE hN hP 0 6 rfl (by decide) rfl (by decide) dX4_through_134 (by omega) ?_
                  refine rw_i (v := ((thg g oo false i kk) 6) oo) rfl ?_
                  refine lv_iconst (v := 1) hx hb dX4_through_135 (by decide) ?_
                  refine lv_iadd hx hb dX4_through_136 ?_
                  refine mo_st (n := 12) hE hN hP hS 0 6 rfl (by decide) rfl (by decide) dX4_through_137 (by omega) (fun H locs hP hS => ?_)
                  refine lv_iinc (v := nI (kk + 1)) (lv' := [(7, .int (nI (kk + 1))), (0, .ref (ad 0)), (1, .int (nI oo)), (2, .int (nI i)), (3, .int (nI j)), (5, .int (-1)), (6, .int (nI (i - j + 1)))]) hx hb dX4_through_138 hl (k := 6) rfl (nI_1 kk) (by decide) rfl (fun ls hl => ?_)
                  refine lv_goto (tgt := 97) hx hb dX4_through_141 (by decide) ?_
                  exact ih_97 (kk + 1) (by omega) (by omega) H locs hP hS ls (lv_sub hl [1, 2, 3, 4, 5, 6, 0] rfl)
            exact lp_97 (300) 0 (by omega) (by omega) _ _ hP hS ls (lv_sub hl [1, 2, 3, 4, 5, 6, 0] rfl)
          · have k_61 : kk < (i - j + 1) := nn_nle (a := (i - j + 1)) (b := kk) c_61 (by omega) (by omega)
            refine lv_aload_n hx hb dX4_through_64 rfl (lv_at hl 0 rfl) ?_
            refine mo_get (x := .ref (ad 5)) hE iX4_through_X4 hP 5 (by decide) mX4_through_f19 rfl rfl dX4_through_65 ?_
            refine lv_sipush (v := nI 256) hx hb dX4_through_68 (by decide) ?_
            refine lv_iload_n hx hb dX4_through_71 rfl (lv_at hl 1 rfl) ?_
            refine lv_imul hx hb dX4_through_72 ?_
            refine rw_i (v := nI (256 * oo)) (pk_mul _ _) ?_
            refine lv_iload_n hx hb dX4_through_73 rfl (lv_at hl 2 rfl) ?_
            refine lv_iadd hx hb dX4_through_74 ?_
            refine rw_i (v := nI ((256 * oo) + i)) (nI_add _ _) ?_
            refine lv_iload hx hb dX4_through_75 (lv_at hl 6 rfl) ?_
            refine lv_iload hx hb dX4_through_77 (lv_at hl 4 rfl) ?_
            refine lv_imul hx hb dX4_through_79 ?_
            refine rw_i (v := nI kk * (-1)) rfl ?_
            refine lv_iadd hx hb dX4_through_80 ?_
            refine rw_i (v := nI (256 * oo + tix false i kk)) (by rw [nI_dn (by omega)]; exact congrArg nI (by show 256 * oo + i - kk = 256 * oo + (i - kk); omega)) ?_
            refine mo_ld (n := 3072) hE hN hP 0 5 rfl (by decide) rfl (by decide) dX4_through_81 (by have := hkk; unfold tix; dsimp only; omega) ?_
            refine lv_iconst (v := (-1)) hx hb dX4_through_82 (by decide) ?_
            refine lv_icmp_eq (tgt := 88) hx hb dX4_through_83 (by decide) (fun c_83 => ?_) (fun c_83 => ?_)
            · refine lv_iinc (v := nI (kk + 1)) (lv' := [(7, .int (nI (kk + 1))), (0, .ref (ad 0)), (1, .int (nI oo)), (2, .int (nI i)), (3, .int (nI j)), (5, .int (-1)), (6, .int (nI (i - j + 1)))]) hx hb dX4_through_88 hl (k := 6) rfl (nI_1 kk) (by decide) rfl (fun ls hl => ?_)
              refine lv_goto (tgt := 57) hx hb dX4_through_91 (by decide) ?_
              exact ih_57 (kk + 1) (by omega) (lt_s (p := fun q => g 5 (256 * oo + tix false i q) = -1) hal c_83) (by omega) H locs hP hS ls (lv_sub hl [1, 2, 3, 4, 5, 6, 0] rfl)
            · refine lv_iconst (v := 0) hx hb dX4_through_86 (by decide) ?_
              rw [hQ]
              exact mw_iret (v := 0) hE hr hlocks hP hS dX4_through_87 (⟨_, _, rfl, hV, Or.inr ⟨oo, i, j, false, hoo, hi, hj, rfl, rfl, rfl, hk2, ⟨fun h => absurd h (by decide), fun h => absurd h (by omega)⟩, Or.inl ⟨⟨kk, k_61, c_83⟩, rfl, rfl⟩⟩⟩)
      exact lp_57 (300) 0 (by omega) (fun q h => absurd h (Nat.not_lt_zero _)) (by omega) _ _ hP hS ls (lv_sub hl [4, 5, 6, 7, 2, 1, 0] rfl)
