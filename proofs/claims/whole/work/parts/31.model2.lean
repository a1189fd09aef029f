set_option maxRecDepth 20000 in
theorem mX4_page_f13 : Cond.fieldLink RX4 13 "CodePagesModel" "standIns" "[I" ∈ wsX4_page := by decide +kernel
set_option maxRecDepth 20000 in
theorem mX4_page_f34 : Cond.fieldLink RX4 34 "CodePagesModel" "code" "I" ∈ wsX4_page := by decide +kernel
set_option maxRecDepth 20000 in
theorem mX4_page_f38 : Cond.fieldLink RX4 38 "CodePagesModel" "pages" "I" ∈ wsX4_page := by decide +kernel
set_option maxRecDepth 20000 in
theorem mX4_page_f7 : Cond.fieldLink RX4 7 "CodePagesModel" "means" "[I" ∈ wsX4_page := by decide +kernel
set_option maxRecDepth 20000 in
theorem iX4_page_X4 : ∀ w ∈ u_ws RX4 TX4 14, w ∈ wsX4_page := by decide +kernel
set_option maxHeartbeats 4000000 in
set_option maxRecDepth 100000 in
theorem tX4_page (l : Launch) (D : va_G) (k : Nat → ClassId) (M : mw) (sz : Nat) (ad : Nat → Nat) (v : Nat → Int32) (g : Nat → Nat → Int32) (n : Nat → Nat) (x : Int32) (hN : mo_N ad) (hV : mo_V v n) (hn9 : mo_B n) (hM : M = mo_M (k 0) ad v g) : Met l yX4_page wsX4_page ({ frames := 0, cells := 0, slots := 0, locals := 0 }) (va_Pc [.ref (ad 0), .int x] (mw_U D vwCl (TY k) M sz)) (va_Qi (fun r M1 => ∃ v1 g1 n1, M1 = mo_M (k 0) ad v1 g1 ∧ mo_V v1 n1 ∧ R_page n g x r n1 g1) (mw_B D vwCl M sz) (mw_A M sz)) 0 0 (mw_A M sz) := by
  refine mw_met (cc := cX4_page) (maxL := 3) (ret := (some .int)) (lv := [(0, .ref (ad 0)), (1, .int x)]) (by decide) rfl (Nat.le_of_ble_eq_true rfl) rfl ?_
  intro p e s m below meth c ls hE hr hlocks hin hml hsz hP hS hl
  subst hsz
  have hx := hE.1
  have hb := hE.2.1
  have hA : ∀ q, s.heap.size ≤ q → mw_A M s.heap.size q := fun q h => Or.inr h
  obtain ⟨Q, hQ⟩ : ∃ Q : State → Prop, Q = MQ below (va_Qi (fun r M1 => ∃ v1 g1 n1, M1 = mo_M (k 0) ad v1 g1 ∧ mo_V v1 n1 ∧ R_page n g x r n1 g1) (mw_B D vwCl M s.heap.size) (mw_A M s.heap.size)) ([.ref (ad 0), .int x] : List Value).toArray s 0 0 (mw_A M s.heap.size) := ⟨_, rfl⟩
  rw [← hQ]
  have hP : mw_Q (mw_A M s.heap.size) D vwCl (mo_M (k 0) ad v g) s.heap := by rw [← hM]; exact hP
  obtain ⟨hb0, hb1, hb2, hb3⟩ := hn9
  refine lv_aload_n hx hb dX4_page_0 rfl (lv_at hl 0 rfl) ?_
  refine lv_iconst (v := 0) hx hb dX4_page_1 (by decide) ?_
  refine mo_put hE iX4_page_X4 hP hS 0 (by decide) mX4_page_f34 rfl rfl (by decide +kernel) rfl dX4_page_2 (fun H locs hP hS => ?_)
  refine lv_iload_n hx hb dX4_page_5 rfl (lv_at hl 1 rfl) ?_
  refine lv_if_lt (tgt := 14) hx hb dX4_page_6 (by decide) (fun c_6 => ?_) (fun c_6 => ?_)
  · refine lv_bipush (v := (-4)) hx hb dX4_page_14 (by decide) ?_
    rw [hQ]
    exact mw_iret (v := (-4)) hE hr hlocks hP hS dX4_page_16 (⟨va_up v 0 0, g, n, rfl, hV, Or.inl ⟨fun q => ((rw_in1 (n := 2) (by decide)).mp q).1 c_6, rfl, rfl, rfl⟩⟩)
  · refine lv_iload_n hx hb dX4_page_9 rfl (lv_at hl 1 rfl) ?_
    refine lv_iconst (v := nI 2) hx hb dX4_page_10 (by decide) ?_
    refine lv_icmp_le (tgt := 17) hx hb dX4_page_11 (by decide) (fun c_11 => ?_) (fun c_11 => ?_)
    · have hx3 := (show vp_in x 3 from (rw_in1 (n := 2) (by decide)).mpr ⟨c_6, Int32.not_lt.mpr c_11⟩)
      obtain ⟨z, hz, rfl⟩ := vp_in_of hx3 (by omega)
      refine lv_aload_n hx hb dX4_page_17 rfl (lv_at hl 0 rfl) ?_
      refine mo_get (x := .int (v 3)) hE iX4_page_X4 hP 3 (by decide) mX4_page_f38 rfl rfl dX4_page_18 ?_
      refine rw_i (v := nI (n 0)) hV.1 ?_
      refine lv_bipush (v := nI 12) hx hb dX4_page_21 (by decide) ?_
      refine lv_icmp_ne (tgt := 28) hx hb dX4_page_23 (by decide) (fun c_23 => ?_) (fun c_23 => ?_)
      · have k_23 : (n 0) ≠ 12 := nn_neq (a := (n 0)) (b := 12) c_23 (by omega) (by omega)
        refine lv_iconst (v := 0) hx hb dX4_page_28 (by decide) ?_
        refine lv_istore_n (lv' := [(2, .int 0), (0, .ref (ad 0)), (1, .int (nI z))]) hx hb dX4_page_29 rfl hl (by decide) rfl (fun ls hl => ?_)
        rw [show mo_M (k 0) ad (va_up v 0 0) g = mo_M (k 0) ad (va_up v 0 0) (va_up g 1 (blk (g 1) (256 * n 0) 0 (fm z))) by rw [blk_0, up_id]] at hP
        have lp_30 : ∀ (fu : Nat) (i : Nat), (i ≤ 256) → 256 - i < fu → ∀ (H : Heap) (locs : List Loc), mw_Q (mw_A M s.heap.size) D vwCl (mo_M (k 0) ad (va_up v 0 0) (va_up g 1 (blk (g 1) (256 * n 0) i (fm z)))) H → va_S (mw_A M s.heap.size) s.heap H locs → ∀ ls : Array Slot, lv_has ls 3 [(0, .ref (ad 0)), (1, .int (nI z)), (2, .int (nI i))] → W p l e ({ frames := 0, cells := 0, slots := 0, locals := 0 } : Room) s m ([.ref (ad 0), .int (nI z)] : List Value).toArray below meth c H locs 0 0 Q (F0 m 30 ls []) := by
          intro fu
          induction fu with
          | zero => intro i hi hn; exact absurd hn (Nat.not_lt_zero _)
          | succ fu ih_30 =>
            intro i hi hn H locs hP hS ls hl
            refine lv_iload_n hx hb dX4_page_30 rfl (lv_at hl 2 rfl) ?_
            refine lv_sipush (v := nI 256) hx hb dX4_page_31 (by decide) ?_
            refine lv_icmp_ge (tgt := 98) hx hb dX4_page_34 (by decide) (fun c_34 => ?_) (fun c_34 => ?_)
            · have k_34 : 256 ≤ i := nn_le (a := 256) (b := i) c_34 (by omega) (by omega)
              obtain rfl : i = 256 := by omega
              refine lv_aload_n hx hb dX4_page_98 rfl (lv_at hl 0 rfl) ?_
              refine mo_get (x := .ref (ad 2)) hE iX4_page_X4 hP 2 (by decide) mX4_page_f13 rfl rfl dX4_page_99 ?_
              refine lv_aload_n hx hb dX4_page_102 rfl (lv_at hl 0 rfl) ?_
              refine mo_get (x := .int (v 3)) hE iX4_page_X4 hP 3 (by decide) mX4_page_f38 rfl rfl dX4_page_103 ?_
              refine rw_i (v := nI (n 0)) hV.1 ?_
              refine lv_bipush (v := nI 63) hx hb dX4_page_106 (by decide) ?_
              refine mo_st (n := 12) hE hN hP hS 0 2 rfl (by decide) rfl (by decide) dX4_page_108 (by omega) (fun H locs hP hS => ?_)
              refine lv_aload_n hx hb dX4_page_109 rfl (lv_at hl 0 rfl) ?_
              refine lv_dup hx hb dX4_page_110 rfl ?_
              refine mo_get (x := .int (v 3)) hE iX4_page_X4 hP 3 (by decide) mX4_page_f38 rfl rfl dX4_page_111 ?_
              refine rw_i (v := nI (n 0)) hV.1 ?_
              refine lv_iconst (v := 1) hx hb dX4_page_114 (by decide) ?_
              refine lv_iadd hx hb dX4_page_115 ?_
              refine rw_i (v := nI ((n 0) + 1)) (nI_1 _) ?_
              refine mo_put hE iX4_page_X4 hP hS 3 (by decide) mX4_page_f38 rfl rfl (by decide +kernel) rfl dX4_page_116 (fun H locs hP hS => ?_)
              refine lv_aload_n hx hb dX4_page_119 rfl (lv_at hl 0 rfl) ?_
              refine mo_get (x := .int (nI ((n 0) + 1))) hE iX4_page_X4 hP 3 (by decide) mX4_page_f38 rfl rfl dX4_page_120 ?_
              refine lv_iconst (v := 1) hx hb dX4_page_123 (by decide) ?_
              refine lv_isub hx hb dX4_page_124 ?_
              refine rw_i (v := nI (n 0)) (nI_pred _) ?_
              rw [hQ]
              exact mw_iret (v := nI (n 0)) hE hr hlocks hP hS dX4_page_125 (⟨_, _, va_up n 0 (n 0 + 1), rfl, ⟨rfl, hV.2.1, hV.2.2.1, hV.2.2.2⟩, Or.inr (Or.inr ⟨z, hz, rfl, by omega, rfl, rfl, rfl⟩)⟩)
            · have k_34 : i < 256 := nn_nle (a := 256) (b := i) c_34 (by omega) (by omega)
              refine lv_aload_n hx hb dX4_page_37 rfl (lv_at hl 0 rfl) ?_
              refine mo_get (x := .ref (ad 1)) hE iX4_page_X4 hP 1 (by decide) mX4_page_f7 rfl rfl dX4_page_38 ?_
              refine lv_sipush (v := nI 256) hx hb dX4_page_41 (by decide) ?_
              refine lv_aload_n hx hb dX4_page_44 rfl (lv_at hl 0 rfl) ?_
              refine mo_get (x := .int (v 3)) hE iX4_page_X4 hP 3 (by decide) mX4_page_f38 rfl rfl dX4_page_45 ?_
              refine rw_i (v := nI (n 0)) hV.1 ?_
              refine lv_imul hx hb dX4_page_48 ?_
              refine rw_i (v := nI (256 * (n 0))) (pk_mul _ _) ?_
              refine lv_iload_n hx hb dX4_page_49 rfl (lv_at hl 2 rfl) ?_
              refine lv_iadd hx hb dX4_page_50 ?_
              refine rw_i (v := nI ((256 * (n 0)) + i)) (nI_add _ _) ?_
              refine lv_iload_n hx hb dX4_page_51 rfl (lv_at hl 1 rfl) ?_
              refine lv_if_ne (tgt := 70) hx hb dX4_page_52 (by decide) (fun c_52 => ?_) (fun c_52 => ?_)
              · have k_52 : z ≠ 0 := nn_neq (a := z) (b := 0) c_52 (by omega) (by omega)
                refine lv_iload_n hx hb dX4_page_70 rfl (lv_at hl 1 rfl) ?_
                refine lv_iconst (v := 1) hx hb dX4_page_71 (by decide) ?_
                refine lv_icmp_ne (tgt := 90) hx hb dX4_page_72 (by decide) (fun c_72 => ?_) (fun c_72 => ?_)
                · have k_72 : z ≠ 1 := nn_neq (a := z) (b := 1) c_72 (by omega) (by omega)
                  refine lv_iconst (v := (-1)) hx hb dX4_page_90 (by decide) ?_
                  refine mo_st (n := 3072) hE hN hP hS 0 1 rfl (by decide) rfl (by decide) dX4_page_91 (by omega) (fun H locs hP hS => ?_)
                  refine lv_iinc (v := nI (i + 1)) (lv' := [(2, .int (nI (i + 1))), (0, .ref (ad 0)), (1, .int (nI z))]) hx hb dX4_page_92 hl (k := 2) rfl (nI_1 i) (by decide) rfl (fun ls hl => ?_)
                  refine lv_goto (tgt := 30) hx hb dX4_page_95 (by decide) ?_
                  rw [blk_up, va_up_self, blk_s (show (-1) = fm z i by unfold fm; rw [if_neg k_52, if_neg k_72])] at hP
                  exact ih_30 (i + 1) (by omega) (by omega) H locs hP hS ls (lv_sub hl [1, 2, 0] rfl)
                · have k_72 : z = 1 := nn_eq (a := z) (b := 1) c_72 (by omega) (by omega)
                  refine lv_sipush (v := nI 167) hx hb dX4_page_75 (by decide) ?_
                  refine lv_iload_n hx hb dX4_page_78 rfl (lv_at hl 2 rfl) ?_
                  refine lv_imul hx hb dX4_page_79 ?_
                  refine rw_i (v := nI (167 * i)) (pk_mul _ _) ?_
                  refine lv_bipush (v := nI 13) hx hb dX4_page_80 (by decide) ?_
                  refine lv_iadd hx hb dX4_page_82 ?_
                  refine rw_i (v := nI ((167 * i) + 13)) (nI_add _ _) ?_
                  refine lv_sipush (v := nI 256) hx hb dX4_page_83 (by decide) ?_
                  refine lv_irem hx hb dX4_page_86 (by decide) ?_
                  refine rw_i (v := nI ((167 * i + 13) % 256)) (pk_rem (by omega) (by decide) (by decide)) ?_
                  refine lv_goto (tgt := 91) hx hb dX4_page_87 (by decide) ?_
                  refine mo_st (n := 3072) hE hN hP hS 0 1 rfl (by decide) rfl (by decide) dX4_page_91 (by omega) (fun H locs hP hS => ?_)
                  refine lv_iinc (v := nI (i + 1)) (lv' := [(2, .int (nI (i + 1))), (0, .ref (ad 0)), (1, .int (nI z))]) hx hb dX4_page_92 hl (k := 2) rfl (nI_1 i) (by decide) rfl (fun ls hl => ?_)
                  refine lv_goto (tgt := 30) hx hb dX4_page_95 (by decide) ?_
                  rw [blk_up, va_up_self, blk_s (show (nI ((167 * i + 13) % 256)) = fm z i by unfold fm; rw [if_neg k_52, if_pos k_72])] at hP
                  exact ih_30 (i + 1) (by omega) (by omega) H locs hP hS ls (lv_sub hl [1, 2, 0] rfl)
              · have k_52 : z = 0 := nn_eq (a := z) (b := 0) c_52 (by omega) (by omega)
                refine lv_iload_n hx hb dX4_page_55 rfl (lv_at hl 2 rfl) ?_
                refine lv_sipush (v := nI 128) hx hb dX4_page_56 (by decide) ?_
                refine lv_icmp_ge (tgt := 66) hx hb dX4_page_59 (by decide) (fun c_59 => ?_) (fun c_59 => ?_)
                · have k_59 : 128 ≤ i := nn_le (a := 128) (b := i) c_59 (by omega) (by omega)
                  refine lv_iconst (v := (-1)) hx hb dX4_page_66 (by decide) ?_
                  refine lv_goto (tgt := 91) hx hb dX4_page_67 (by decide) ?_
                  refine mo_st (n := 3072) hE hN hP hS 0 1 rfl (by decide) rfl (by decide) dX4_page_91 (by omega) (fun H locs hP hS => ?_)
                  refine lv_iinc (v := nI (i + 1)) (lv' := [(2, .int (nI (i + 1))), (0, .ref (ad 0)), (1, .int (nI z))]) hx hb dX4_page_92 hl (k := 2) rfl (nI_1 i) (by decide) rfl (fun ls hl => ?_)
                  refine lv_goto (tgt := 30) hx hb dX4_page_95 (by decide) ?_
                  rw [blk_up, va_up_self, blk_s (show (-1) = fm z i by unfold fm; rw [if_pos k_52, if_neg (by omega)])] at hP
                  exact ih_30 (i + 1) (by omega) (by omega) H locs hP hS ls (lv_sub hl [1, 2, 0] rfl)
                · have k_59 : i < 128 := nn_nle (a := 128) (b := i) c_59 (by omega) (by omega)
                  refine lv_iload_n hx hb dX4_page_62 rfl (lv_at hl 2 rfl) ?_
                  refine lv_goto (tgt := 91) hx hb dX4_page_63 (by decide) ?_
                  refine mo_st (n := 3072) hE hN hP hS 0 1 rfl (by decide) rfl (by decide) dX4_page_91 (by omega) (fun H locs hP hS => ?_)
                  refine lv_iinc (v := nI (i + 1)) (lv' := [(2, .int (nI (i + 1))), (0, .ref (ad 0)), (1, .int (nI z))]) hx hb dX4_page_92 hl (k := 2) rfl (nI_1 i) (by decide) rfl (fun ls hl => ?_)
                  refine lv_goto (tgt := 30) hx hb dX4_page_95 (by decide) ?_
                  rw [blk_up, va_up_self, blk_s (show (nI i) = fm z i by unfold fm; rw [if_pos k_52, if_pos k_59])] at hP
                  exact ih_30 (i + 1) (by omega) (by omega) H locs hP hS ls (lv_sub hl [1, 2, 0] rfl)
        exact lp_30 (257) 0 (by omega) (by omega) _ _ hP hS ls (lv_sub hl [1, 2, 0] rfl)
      · have k_23 : (n 0) = 12 := nn_eq (a := (n 0)) (b := 12) c_23 (by omega) (by omega)
        refine lv_iconst (v := (-1)) hx hb dX4_page_26 (by decide) ?_
        rw [hQ]
        exact mw_iret (v := (-1)) hE hr hlocks hP hS dX4_page_27 (⟨va_up v 0 0, g, n, rfl, hV, Or.inr (Or.inl ⟨hx3, k_23, rfl, rfl, rfl⟩)⟩)
    · refine lv_bipush (v := (-4)) hx hb dX4_page_14 (by decide) ?_
      rw [hQ]
      exact mw_iret (v := (-4)) hE hr hlocks hP hS dX4_page_16 (⟨va_up v 0 0, g, n, rfl, hV, Or.inl ⟨fun q => ((rw_in1 (n := 2) (by decide)).mp q).2 (Int32.not_le.mp c_11), rfl, rfl, rfl⟩⟩)

set_option maxRecDepth 20000 in
theorem mX4_row_f34 : Cond.fieldLink RX4 34 "CodePagesModel" "code" "I" ∈ wsX4_row := by decide +kernel
set_option maxRecDepth 20000 in
theorem mX4_row_f7 : Cond.fieldLink RX4 7 "CodePagesModel" "means" "[I" ∈ wsX4_row := by decide +kernel
set_option maxRecDepth 20000 in
theorem iX4_row_X4 : ∀ w ∈ u_ws RX4 TX4 14, w ∈ wsX4_row := by decide +kernel
set_option maxHeartbeats 4000000 in
set_option maxRecDepth 100000 in
theorem tX4_row (l : Launch) (D : va_G) (k : Nat → ClassId) (M : mw) (sz : Nat) (ad : Nat → Nat) (v : Nat → Int32) (g : Nat → Nat → Int32) (n : Nat → Nat) (x y : Int32) (hN : mo_N ad) (hV : mo_V v n) (hn9 : mo_B n) (hM : M = mo_M (k 0) ad v g) : Met l yX4_row wsX4_row ({ frames := 1, cells := 0, slots := 0, locals := 21 }) (va_Pc [.ref (ad 0), .int x, .int y] (mw_U D vwCl (TY k) M sz)) (va_Qi (fun r M1 => ∃ v1, M1 = mo_M (k 0) ad v1 g ∧ mo_V v1 n ∧ R_row n g x y r (v1 0)) (mw_B D vwCl M sz) (mw_A M sz)) 0 0 (mw_A M sz) := by
  refine mw_met (cc := cX4_row) (maxL := 4) (ret := (some .int)) (lv := [(0, .ref (ad 0)), (1, .int x), (2, .int y)]) (by decide) rfl (Nat.le_of_ble_eq_true rfl) rfl ?_
  intro p e s m below meth c ls hE hr hlocks hin hml hsz hP hS hl
  subst hsz
  have hx := hE.1
  have hb := hE.2.1
  have hA : ∀ q, s.heap.size ≤ q → mw_A M s.heap.size q := fun q h => Or.inr h
  have hP : mw_Q (mw_A M s.heap.size) D vwCl (mo_M (k 0) ad v g) s.heap := by rw [← hM]; exact hP
  obtain ⟨hb0, hb1, hb2, hb3⟩ := hn9
  refine lv_aload_n hx hb dX4_row_0 rfl (lv_at hl 0 rfl) ?_
  refine lv_iload_n hx hb dX4_row_1 rfl (lv_at hl 1 rfl) ?_
  refine mw_calli hP hS hA (va_runV (As := [.int x]) (rest := []) ⟨hx, hb, hml, hE.2.2.2.1, hE.2.2.1⟩ (tX4_isPage l D k _ _ ad v g n x hN hV ⟨hb0, hb1, hb2, hb3⟩ rfl) (cwV 1 hE.2.2.1 gX4_row_X4_isPage rfl rfl rfl (by decide +kernel) ⟨(Nat.le_of_ble_eq_true rfl), (Nat.le_of_ble_eq_true rfl)⟩) (mw_preV hE hP (ci := 5) rfl rfl mo_o [.int x]) rfl rfl hl.1 rfl (lv_room (Nat.le_of_ble_eq_true rfl)) dX4_row_2 ⟨(Nat.le_of_ble_eq_true rfl), (Nat.le_of_ble_eq_true rfl)⟩) (fun r_1 M1 H locs hw hP hS => ?_)
  obtain ⟨rfl, hw⟩ := hw
  rcases hw with ⟨hq_2, rfl⟩ | ⟨hq_2, rfl⟩
  · obtain ⟨pp, hpp, rfl⟩ := vp_in_of hq_2 (by omega)
    refine lv_if_eq (tgt := 19) hx hb dX4_row_5 (by decide) (fun c9 => absurd c9 (by decide)) (fun _ => ?_)
    refine lv_iload_n hx hb dX4_row_8 rfl (lv_at hl 2 rfl) ?_
    refine mw_calli hP hS hA (va_runS (As := [.int y]) (rest := []) ⟨hx, hb, hml, hE.2.2.2.1, hE.2.2.1⟩ (tX4_isCode l D k _ _ y) (va_cwS 1 hE.2.2.1 gX4_row_X4_isCode rfl rfl rfl (by decide +kernel) ⟨(Nat.le_of_ble_eq_true rfl), (Nat.le_of_ble_eq_true rfl)⟩) (mw_preS hE hP [.int y]) rfl rfl hl.1 rfl (lv_room (Nat.le_of_ble_eq_true rfl)) dX4_row_9 ⟨(Nat.le_of_ble_eq_true rfl), (Nat.le_of_ble_eq_true rfl)⟩) (fun r_4 M1 H locs hw hP hS => ?_)
    obtain ⟨rfl, hw⟩ := hw
    rcases hw with ⟨hq_5, rfl⟩ | ⟨hq_5, rfl⟩
    · obtain ⟨j, hj, rfl⟩ := vp_in_of hq_5 (by omega)
      refine lv_if_eq (tgt := 19) hx hb dX4_row_12 (by decide) (fun c9 => absurd c9 (by decide)) (fun _ => ?_)
      refine lv_iconst (v := 1) hx hb dX4_row_15 (by decide) ?_
      refine lv_goto (tgt := 20) hx hb dX4_row_16 (by decide) ?_
      refine lv_istore_n (lv' := [(3, .int 1), (0, .ref (ad 0)), (1, .int (nI pp)), (2, .int (nI j))]) hx hb dX4_row_20 rfl hl (by decide) rfl (fun ls hl => ?_)
      refine lv_aload_n hx hb dX4_row_21 rfl (lv_at hl 1 rfl) ?_
      refine lv_iload_n hx hb dX4_row_22 rfl (lv_at hl 0 rfl) ?_
      refine lv_if_eq (tgt := 30) hx hb dX4_row_23 (by decide) (fun c9 => absurd c9 (by decide)) (fun _ => ?_)
      refine lv_iconst (v := 0) hx hb dX4_row_26 (by decide) ?_
      refine lv_goto (tgt := 31) hx hb dX4_row_27 (by decide) ?_
      refine mo_put hE iX4_row_X4 hP hS 0 (by decide) mX4_row_f34 rfl rfl (by decide +kernel) rfl dX4_row_31 (fun H locs hP hS => ?_)
      refine lv_iload_n hx hb dX4_row_34 rfl (lv_at hl 0 rfl) ?_
      refine lv_if_eq (tgt := 53) hx hb dX4_row_35 (by decide) (fun c9 => absurd c9 (by decide)) (fun _ => ?_)
      refine lv_aload_n hx hb dX4_row_38 rfl (lv_at hl 1 rfl) ?_
      refine mo_get (x := .ref (ad 1)) hE iX4_row_X4 hP 1 (by decide) mX4_row_f7 rfl rfl dX4_row_39 ?_
      refine lv_sipush (v := nI 256) hx hb dX4_row_42 (by decide) ?_
      refine lv_iload_n hx hb dX4_row_45 rfl (lv_at hl 2 rfl) ?_
      refine lv_imul hx hb dX4_row_46 ?_
      refine rw_i (v := nI (256 * pp)) (pk_mul _ _) ?_
      refine lv_iload_n hx hb dX4_row_47 rfl (lv_at hl 3 rfl) ?_
      refine lv_iadd hx hb dX4_row_48 ?_
      refine rw_i (v := nI ((256 * pp) + j)) (nI_add _ _) ?_
      refine mo_ld (n := 3072) hE hN hP 0 1 rfl (by decide) rfl (by decide) dX4_row_49 (by omega) ?_
      refine lv_goto (tgt := 54) hx hb dX4_row_50 (by decide) ?_
      exact mw_iret (v := g 1 ((256 * pp) + j)) hE hr hlocks hP hS dX4_row_54 (⟨va_up v 0 0, rfl, hV, Or.inr ⟨pp, j, hpp, hj, rfl, rfl, rfl, rfl⟩⟩)
    · refine lv_if_eq (tgt := 19) hx hb dX4_row_12 (by decide) (fun _ => ?_) (fun c9 => absurd (by decide) c9)
      refine lv_iconst (v := 0) hx hb dX4_row_19 (by decide) ?_
      refine lv_istore_n (lv' := [(3, .int 0), (0, .ref (ad 0)), (1, .int (nI pp)), (2, .int y)]) hx hb dX4_row_20 rfl hl (by decide) rfl (fun ls hl => ?_)
      refine lv_aload_n hx hb dX4_row_21 rfl (lv_at hl 1 rfl) ?_
      refine lv_iload_n hx hb dX4_row_22 rfl (lv_at hl 0 rfl) ?_
      refine lv_if_eq (tgt := 30) hx hb dX4_row_23 (by decide) (fun _ => ?_) (fun c9 => absurd (by decide) c9)
      refine lv_iconst (v := 1) hx hb dX4_row_30 (by decide) ?_
      refine mo_put hE iX4_row_X4 hP hS 0 (by decide) mX4_row_f34 rfl rfl (by decide +kernel) rfl dX4_row_31 (fun H locs hP hS => ?_)
      refine lv_iload_n hx hb dX4_row_34 rfl (lv_at hl 0 rfl) ?_
      refine lv_if_eq (tgt := 53) hx hb dX4_row_35 (by decide) (fun _ => ?_) (fun c9 => absurd (by decide) c9)
      refine lv_iconst (v := 0) hx hb dX4_row_53 (by decide) ?_
      exact mw_iret (v := 0) hE hr hlocks hP hS dX4_row_54 (⟨va_up v 0 1, rfl, hV, Or.inl ⟨fun q => hq_5 q.2, rfl, rfl⟩⟩)
  · refine lv_if_eq (tgt := 19) hx hb dX4_row_5 (by decide) (fun _ => ?_) (fun c9 => absurd (by decide) c9)
    refine lv_iconst (v := 0) hx hb dX4_row_19 (by decide) ?_
    refine lv_istore_n (lv' := [(3, .int 0), (0, .ref (ad 0)), (1, .int x), (2, .int y)]) hx hb dX4_row_20 rfl hl (by decide) rfl (fun ls hl => ?_)
    refine lv_aload_n hx hb dX4_row_21 rfl (lv_at hl 1 rfl) ?_
    refine lv_iload_n hx hb dX4_row_22 rfl (lv_at hl 0 rfl) ?_
    refine lv_if_eq (tgt := 30) hx hb dX4_row_23 (by decide) (fun _ => ?_) (fun c9 => absurd (by decide) c9)
    refine lv_iconst (v := 1) hx hb dX4_row_30 (by decide) ?_
    refine mo_put hE iX4_row_X4 hP hS 0 (by decide) mX4_row_f34 rfl rfl (by decide +kernel) rfl dX4_row_31 (fun H locs hP hS => ?_)
    refine lv_iload_n hx hb dX4_row_34 rfl (lv_at hl 0 rfl) ?_
    refine lv_if_eq (tgt := 53) hx hb dX4_row_35 (by decide) (fun _ => ?_) (fun c9 => absurd (by decide) c9)
    refine lv_iconst (v := 0) hx hb dX4_row_53 (by decide) ?_
    exact mw_iret (v := 0) hE hr hlocks hP hS dX4_row_54 (⟨va_up v 0 1, rfl, hV, Or.inl ⟨fun q => hq_2 q.1, rfl, rfl⟩⟩)

set_option maxRecDepth 20000 in
theorem mX4_standIn_f13 : Cond.fieldLink RX4 13 "CodePagesModel" "standIns" "[I" ∈ wsX4_standIn := by decide +kernel
set_option maxRecDepth 20000 in
theorem mX4_standIn_f34 : Cond.fieldLink RX4 34 "CodePagesModel" "code" "I" ∈ wsX4_standIn := by decide +kernel
set_option maxRecDepth 20000 in
theorem iX4_standIn_X4 : ∀ w ∈ u_ws RX4 TX4 14, w ∈ wsX4_standIn := by decide +kernel
set_option maxHeartbeats 4000000 in
set_option maxRecDepth 100000 in
theorem tX4_standIn (l : Launch) (D : va_G) (k : Nat → ClassId) (M : mw) (sz : Nat) (ad : Nat → Nat) (v : Nat → Int32) (g : Nat → Nat → Int32) (n : Nat → Nat) (x y : Int32) (hN : mo_N ad) (hV : mo_V v n) (hn9 : mo_B n) (hM : M = mo_M (k 0) ad v g) : Met l yX4_standIn wsX4_standIn ({ frames := 1, cells := 0, slots := 0, locals := 21 }) (va_Pc [.ref (ad 0), .int x, .int y] (mw_U D vwCl (TY k) M sz)) (va_Qi (fun r M1 => ∃ v1 g1, M1 = mo_M (k 0) ad v1 g1 ∧ mo_V v1 n ∧ R_standIn n g x y r g1) (mw_B D vwCl M sz) (mw_A M sz)) 0 0 (mw_A M sz) := by
  refine mw_met (cc := cX4_standIn) (maxL := 4) (ret := (some .int)) (lv := [(0, .ref (ad 0)), (1, .int x), (2, .int y)]) (by decide) rfl (Nat.le_of_ble_eq_true rfl) rfl ?_
  intro p e s m below meth c ls hE hr hlocks hin hml hsz hP hS hl
  subst hsz
  have hx := hE.1
  have hb := hE.2.1
  have hA : ∀ q, s.heap.size ≤ q → mw_A M s.heap.size q := fun q h => Or.inr h
  have hP : mw_Q (mw_A M s.heap.size) D vwCl (mo_M (k 0) ad v g) s.heap := by rw [← hM]; exact hP
  obtain ⟨hb0, hb1, hb2, hb3⟩ := hn9
  refine lv_aload_n hx hb dX4_standIn_0 rfl (lv_at hl 0 rfl) ?_
  refine lv_iconst (v := 0) hx hb dX4_standIn_1 (by decide) ?_
  refine mo_put hE iX4_standIn_X4 hP hS 0 (by decide) mX4_standIn_f34 rfl rfl (by decide +kernel) rfl dX4_standIn_2 (fun H locs hP hS => ?_)
  refine lv_aload_n hx hb dX4_standIn_5 rfl (lv_at hl 0 rfl) ?_
  refine lv_iload_n hx hb dX4_standIn_6 rfl (lv_at hl 1 rfl) ?_
  refine mw_calli hP hS hA (va_runV (As := [.int x]) (rest := []) ⟨hx, hb, hml, hE.2.2.2.1, hE.2.2.1⟩ (tX4_isPage l D k _ _ ad (va_up v 0 0) g n x hN hV ⟨hb0, hb1, hb2, hb3⟩ rfl) (cwV 1 hE.2.2.1 gX4_standIn_X4_isPage rfl rfl rfl (by decide +kernel) ⟨(Nat.le_of_ble_eq_true rfl), (Nat.le_of_ble_eq_true rfl)⟩) (mw_preV hE hP (ci := 5) rfl rfl mo_o [.int x]) rfl rfl hl.1 rfl (lv_room (Nat.le_of_ble_eq_true rfl)) dX4_standIn_7 ⟨(Nat.le_of_ble_eq_true rfl), (Nat.le_of_ble_eq_true rfl)⟩) (fun r_1 M1 H locs hw hP hS => ?_)
  obtain ⟨rfl, hw⟩ := hw
  rcases hw with ⟨hq_2, rfl⟩ | ⟨hq_2, rfl⟩
  · obtain ⟨pp, hpp, rfl⟩ := vp_in_of hq_2 (by omega)
    refine lv_if_ne (tgt := 16) hx hb dX4_standIn_10 (by decide) (fun _ => ?_) (fun c9 => absurd c9 (by decide))
    refine lv_iload_n hx hb dX4_standIn_16 rfl (lv_at hl 2 rfl) ?_
    refine mw_calli hP hS hA (va_runS (As := [.int y]) (rest := []) ⟨hx, hb, hml, hE.2.2.2.1, hE.2.2.1⟩ (tX4_isCode l D k _ _ y) (va_cwS 1 hE.2.2.1 gX4_standIn_X4_isCode rfl rfl rfl (by decide +kernel) ⟨(Nat.le_of_ble_eq_true rfl), (Nat.le_of_ble_eq_true rfl)⟩) (mw_preS hE hP [.int y]) rfl rfl hl.1 rfl (lv_room (Nat.le_of_ble_eq_true rfl)) dX4_standIn_17 ⟨(Nat.le_of_ble_eq_true rfl), (Nat.le_of_ble_eq_true rfl)⟩) (fun r_4 M1 H locs hw hP hS => ?_)
    obtain ⟨rfl, hw⟩ := hw
    rcases hw with ⟨hq_5, rfl⟩ | ⟨hq_5, rfl⟩
    · obtain ⟨j, hj, rfl⟩ := vp_in_of hq_5 (by omega)
      refine lv_if_ne (tgt := 26) hx hb dX4_standIn_20 (by decide) (fun _ => ?_) (fun c9 => absurd c9 (by decide))
      refine lv_aload_n hx hb dX4_standIn_26 rfl (lv_at hl 0 rfl) ?_
      refine mo_get (x := .ref (ad 2)) hE iX4_standIn_X4 hP 2 (by decide) mX4_standIn_f13 rfl rfl dX4_standIn_27 ?_
      refine lv_iload_n hx hb dX4_standIn_30 rfl (lv_at hl 1 rfl) ?_
      refine mo_ld (n := 12) hE hN hP 0 2 rfl (by decide) rfl (by decide) dX4_standIn_31 (by omega) ?_
      refine lv_istore_n (lv' := [(3, .int (g 2 pp)), (0, .ref (ad 0)), (1, .int (nI pp)), (2, .int (nI j))]) hx hb dX4_standIn_32 rfl hl (by decide) rfl (fun ls hl => ?_)
      refine lv_aload_n hx hb dX4_standIn_33 rfl (lv_at hl 1 rfl) ?_
      refine mo_get (x := .ref (ad 2)) hE iX4_standIn_X4 hP 2 (by decide) mX4_standIn_f13 rfl rfl dX4_standIn_34 ?_
      refine lv_iload_n hx hb dX4_standIn_37 rfl (lv_at hl 2 rfl) ?_
      refine lv_iload_n hx hb dX4_standIn_38 rfl (lv_at hl 3 rfl) ?_
      refine mo_st (n := 12) hE hN hP hS 0 2 rfl (by decide) rfl (by decide) dX4_standIn_39 (by omega) (fun H locs hP hS => ?_)
      refine lv_iload_n hx hb dX4_standIn_40 rfl (lv_at hl 0 rfl) ?_
      exact mw_iret (v := g 2 pp) hE hr hlocks hP hS dX4_standIn_41 (⟨va_up v 0 0, va_up g 2 (upd (g 2) pp (nI j)), rfl, hV, Or.inr (Or.inr ⟨pp, j, hpp, hj, rfl, rfl, rfl, rfl⟩)⟩)
    · refine lv_if_ne (tgt := 26) hx hb dX4_standIn_20 (by decide) (fun c9 => absurd (by decide) c9) (fun _ => ?_)
      refine lv_bipush (v := (-4)) hx hb dX4_standIn_23 (by decide) ?_
      exact mw_iret (v := (-4)) hE hr hlocks hP hS dX4_standIn_25 (⟨va_up v 0 0, g, rfl, hV, Or.inr (Or.inl ⟨vp_in_nI hpp (by omega), hq_5, rfl, rfl⟩)⟩)
  · refine lv_if_ne (tgt := 16) hx hb dX4_standIn_10 (by decide) (fun c9 => absurd (by decide) c9) (fun _ => ?_)
    refine lv_bipush (v := (-2)) hx hb dX4_standIn_13 (by decide) ?_
    exact mw_iret (v := (-2)) hE hr hlocks hP hS dX4_standIn_15 (⟨va_up v 0 0, g, rfl, hV, Or.inl ⟨hq_2, rfl, rfl⟩⟩)

set_option maxRecDepth 20000 in
theorem mX4_translated_f13 : Cond.fieldLink RX4 13 "CodePagesModel" "standIns" "[I" ∈ wsX4_translated := by decide +kernel
set_option maxRecDepth 20000 in
theorem mX4_translated_f31 : Cond.fieldLink RX4 31 "CodePagesModel" "listed" "[I" ∈ wsX4_translated := by decide +kernel
set_option maxRecDepth 20000 in
theorem mX4_translated_f59 : Cond.fieldLink RX4 59 "CodePagesModel" "list" "I" ∈ wsX4_translated := by decide +kernel
set_option maxRecDepth 20000 in
theorem mX4_translated_f62 : Cond.fieldLink RX4 62 "CodePagesModel" "count" "I" ∈ wsX4_translated := by decide +kernel
set_option maxRecDepth 20000 in
theorem mX4_translated_f7 : Cond.fieldLink RX4 7 "CodePagesModel" "means" "[I" ∈ wsX4_translated := by decide +kernel
set_option maxRecDepth 20000 in
theorem iX4_translated_X4 : ∀ w ∈ u_ws RX4 TX4 14, w ∈ wsX4_translated := by decide +kernel
set_option maxHeartbeats 4000000 in
set_option maxRecDepth 100000 in
theorem tX4_translated (l : Launch) (D : va_G) (k : Nat → ClassId) (M : mw) (sz : Nat) (ad : Nat → Nat) (v : Nat → Int32) (g : Nat → Nat → Int32) (n : Nat → Nat) (j pp qq : Nat) (hN : mo_N ad) (hV : mo_V v n) (hn9 : mo_B n) (hM : M = mo_M (k 0) ad v g) (hj : j < 256) (hpp : pp < n 0) (hqq : qq < n 0) : Met l yX4_translated wsX4_translated ({ frames := 1, cells := 0, slots := 0, locals := 24 }) (va_Pc [.ref (ad 0), .int (nI j), .int (nI pp), .int (nI qq)] (mw_U D vwCl (TY k) M sz)) (va_Qi (fun r M1 => ∃ v1 g1 n1 d, M1 = mo_M (k 0) ad v1 g1 ∧ mo_V v1 n1 ∧ R_tr n g j pp qq r n1 g1 d ∧ v1 13 = v 13 + nI d ∧ v1 0 = v 0) (mw_B D vwCl M sz) (mw_A M sz)) 0 0 (mw_A M sz) := by
  refine mw_met (cc := cX4_translated) (maxL := 6) (ret := (some .int)) (lv := [(0, .ref (ad 0)), (1, .int (nI j)), (2, .int (nI pp)), (3, .int (nI qq))]) (by decide) rfl (Nat.le_of_ble_eq_true rfl) rfl ?_
  intro p e s m below meth c ls hE hr hlocks hin hml hsz hP hS hl
  subst hsz
  have hx := hE.1
  have hb := hE.2.1
  have hA : ∀ q, s.heap.size ≤ q → mw_A M s.heap.size q := fun q h => Or.inr h
  have hP : mw_Q (mw_A M s.heap.size) D vwCl (mo_M (k 0) ad v g) s.heap := by rw [← hM]; exact hP
  obtain ⟨hb0, hb1, hb2, hb3⟩ := hn9
  refine lv_aload_n hx hb dX4_translated_0 rfl (lv_at hl 0 rfl) ?_
  refine mo_get (x := .ref (ad 1)) hE iX4_translated_X4 hP 1 (by decide) mX4_translated_f7 rfl rfl dX4_translated_1 ?_
  refine lv_sipush (v := nI 256) hx hb dX4_translated_4 (by decide) ?_
  refine lv_iload_n hx hb dX4_translated_7 rfl (lv_at hl 2 rfl) ?_
  refine lv_imul hx hb dX4_translated_8 ?_
  refine rw_i (v := nI (256 * pp)) (pk_mul _ _) ?_
  refine lv_iload_n hx hb dX4_translated_9 rfl (lv_at hl 1 rfl) ?_
  refine lv_iadd hx hb dX4_translated_10 ?_
  refine rw_i (v := nI ((256 * pp) + j)) (nI_add _ _) ?_
  refine mo_ld (n := 3072) hE hN hP 0 1 rfl (by decide) rfl (by decide) dX4_translated_11 (by omega) ?_
  refine lv_istore (lv' := [(4, .int (g 1 ((256 * pp) + j))), (0, .ref (ad 0)), (1, .int (nI j)), (2, .int (nI pp)), (3, .int (nI qq))]) hx hb dX4_translated_12 hl (by decide) rfl (fun ls hl => ?_)
  refine lv_iload hx hb dX4_translated_14 (lv_at hl 0 rfl) ?_
  refine lv_iconst (v := (-1)) hx hb dX4_translated_16 (by decide) ?_
  refine lv_icmp_ne (tgt := 24) hx hb dX4_translated_17 (by decide) (fun c_17 => ?_) (fun c_17 => ?_)
  · refine lv_aload_n hx hb dX4_translated_24 rfl (lv_at hl 1 rfl) ?_
    refine lv_iload_n hx hb dX4_translated_25 rfl (lv_at hl 4 rfl) ?_
    refine lv_iload hx hb dX4_translated_26 (lv_at hl 0 rfl) ?_
    refine mw_calli hP hS hA (va_runV (As := [.int (nI qq), .int (g 1 ((256 * pp) + j))]) (rest := []) ⟨hx, hb, hml, hE.2.2.2.1, hE.2.2.1⟩ (tX4_codeOf l D k _ _ ad v g n qq (g 1 ((256 * pp) + j)) hN hV ⟨hb0, hb1, hb2, hb3⟩ rfl (by omega)) (cwV 2 hE.2.2.1 gX4_translated_X4_codeOf rfl rfl rfl (by decide +kernel) ⟨(Nat.le_of_ble_eq_true rfl), (Nat.le_of_ble_eq_true rfl)⟩) (mw_preV hE hP (ci := 5) rfl rfl mo_o [.int (nI qq), .int (g 1 ((256 * pp) + j))]) rfl rfl hl.1 rfl (lv_room (Nat.le_of_ble_eq_true rfl)) dX4_translated_28 ⟨(Nat.le_of_ble_eq_true rfl), (Nat.le_of_ble_eq_true rfl)⟩) (fun r_2 M1 H locs hw hP hS => ?_)
    obtain ⟨rfl, er_2⟩ := hw
    refine lv_istore (lv' := [(5, .int r_2), (4, .int (g 1 ((256 * pp) + j))), (0, .ref (ad 0)), (1, .int (nI j)), (2, .int (nI pp)), (3, .int (nI qq))]) hx hb dX4_translated_31 hl (by decide) rfl (fun ls hl => ?_)
    refine lv_iload hx hb dX4_translated_33 (lv_at hl 0 rfl) ?_
    refine lv_iconst (v := (-1)) hx hb dX4_translated_35 (by decide) ?_
    refine lv_icmp_eq (tgt := 42) hx hb dX4_translated_36 (by decide) (fun c_36 => ?_) (fun c_36 => ?_)
    · refine lv_aload_n hx hb dX4_translated_42 rfl (lv_at hl 2 rfl) ?_
      refine mo_get (x := .int (v 12)) hE iX4_translated_X4 hP 12 (by decide) mX4_translated_f59 rfl rfl dX4_translated_43 ?_
      refine rw_i (v := nI (n 3)) hV.2.2.2 ?_
      refine lv_sipush (v := nI 200) hx hb dX4_translated_46 (by decide) ?_
      refine lv_icmp_ge (tgt := 72) hx hb dX4_translated_49 (by decide) (fun c_49 => ?_) (fun c_49 => ?_)
      · have k_49 : 200 ≤ (n 3) := nn_le (a := 200) (b := (n 3)) c_49 (by omega) (by omega)
        refine lv_aload_n hx hb dX4_translated_72 rfl (lv_at hl 2 rfl) ?_
        refine lv_dup hx hb dX4_translated_73 rfl ?_
        refine mo_get (x := .int (v 13)) hE iX4_translated_X4 hP 13 (by decide) mX4_translated_f62 rfl rfl dX4_translated_74 ?_
        refine lv_iconst (v := 1) hx hb dX4_translated_77 (by decide) ?_
        refine lv_iadd hx hb dX4_translated_78 ?_
        refine mo_put hE iX4_translated_X4 hP hS 13 (by decide) mX4_translated_f62 rfl rfl (by decide +kernel) rfl dX4_translated_79 (fun H locs hP hS => ?_)
        refine lv_aload_n hx hb dX4_translated_82 rfl (lv_at hl 2 rfl) ?_
        refine mo_get (x := .ref (ad 2)) hE iX4_translated_X4 hP 2 (by decide) mX4_translated_f13 rfl rfl dX4_translated_83 ?_
        refine lv_iload_n hx hb dX4_translated_86 rfl (lv_at hl 5 rfl) ?_
        refine mo_ld (n := 12) hE hN hP 0 2 rfl (by decide) rfl (by decide) dX4_translated_87 (by omega) ?_
        exact mw_iret (v := g 2 qq) hE hr hlocks hP hS dX4_translated_88 (⟨_, _, n, 1, rfl, hV, Or.inr ⟨(by rw [show mf g qq (g 1 (256 * pp + j)) = r_2 by unfold mf; rw [if_neg c_17, er_2]]; exact c_36), rfl, rfl, Or.inr ⟨by omega, rfl, rfl⟩⟩, rfl, rfl⟩)
      · have k_49 : (n 3) < 200 := nn_nle (a := 200) (b := (n 3)) c_49 (by omega) (by omega)
        refine lv_aload_n hx hb dX4_translated_52 rfl (lv_at hl 2 rfl) ?_
        refine mo_get (x := .ref (ad 11)) hE iX4_translated_X4 hP 11 (by decide) mX4_translated_f31 rfl rfl dX4_translated_53 ?_
        refine lv_aload_n hx hb dX4_translated_56 rfl (lv_at hl 2 rfl) ?_
        refine mo_get (x := .int (v 12)) hE iX4_translated_X4 hP 12 (by decide) mX4_translated_f59 rfl rfl dX4_translated_57 ?_
        refine rw_i (v := nI (n 3)) hV.2.2.2 ?_
        refine lv_iload_n hx hb dX4_translated_60 rfl (lv_at hl 3 rfl) ?_
        refine mo_st (n := 200) hE hN hP hS 0 11 rfl (by decide) rfl (by decide) dX4_translated_61 (by omega) (fun H locs hP hS => ?_)
        refine lv_aload_n hx hb dX4_translated_62 rfl (lv_at hl 2 rfl) ?_
        refine lv_dup hx hb dX4_translated_63 rfl ?_
        refine mo_get (x := .int (v 12)) hE iX4_translated_X4 hP 12 (by decide) mX4_translated_f59 rfl rfl dX4_translated_64 ?_
        refine rw_i (v := nI (n 3)) hV.2.2.2 ?_
        refine lv_iconst (v := 1) hx hb dX4_translated_67 (by decide) ?_
        refine lv_iadd hx hb dX4_translated_68 ?_
        refine rw_i (v := nI ((n 3) + 1)) (nI_1 _) ?_
        refine mo_put hE iX4_translated_X4 hP hS 12 (by decide) mX4_translated_f59 rfl rfl (by decide +kernel) rfl dX4_translated_69 (fun H locs hP hS => ?_)
        refine lv_aload_n hx hb dX4_translated_72 rfl (lv_at hl 2 rfl) ?_
        refine lv_dup hx hb dX4_translated_73 rfl ?_
        refine mo_get (x := .int (v 13)) hE iX4_translated_X4 hP 13 (by decide) mX4_translated_f62 rfl rfl dX4_translated_74 ?_
        refine lv_iconst (v := 1) hx hb dX4_translated_77 (by decide) ?_
        refine lv_iadd hx hb dX4_translated_78 ?_
        refine mo_put hE iX4_translated_X4 hP hS 13 (by decide) mX4_translated_f62 rfl rfl (by decide +kernel) rfl dX4_translated_79 (fun H locs hP hS => ?_)
        refine lv_aload_n hx hb dX4_translated_82 rfl (lv_at hl 2 rfl) ?_
        refine mo_get (x := .ref (ad 2)) hE iX4_translated_X4 hP 2 (by decide) mX4_translated_f13 rfl rfl dX4_translated_83 ?_
        refine lv_iload_n hx hb dX4_translated_86 rfl (lv_at hl 5 rfl) ?_
        refine mo_ld (n := 12) hE hN hP 0 2 rfl (by decide) rfl (by decide) dX4_translated_87 (by omega) ?_
        refine rw_i (v := g 2 qq) rfl ?_
        exact mw_iret (v := g 2 qq) hE hr hlocks hP hS dX4_translated_88 (⟨_, _, va_up n 3 (n 3 + 1), 1, rfl, ⟨hV.1, hV.2.1, hV.2.2.1, rfl⟩, Or.inr ⟨(by rw [show mf g qq (g 1 (256 * pp + j)) = r_2 by unfold mf; rw [if_neg c_17, er_2]]; exact c_36), rfl, rfl, Or.inl ⟨by omega, rfl, rfl⟩⟩, rfl, rfl⟩)
    · refine lv_iload hx hb dX4_translated_39 (lv_at hl 0 rfl) ?_
      exact mw_iret (v := r_2) hE hr hlocks hP hS dX4_translated_41 (⟨v, g, n, 0, rfl, hV, Or.inl ⟨by rw [show mf g qq (g 1 (256 * pp + j)) = r_2 by unfold mf; rw [if_neg c_17, er_2]]; exact c_36, by rw [show mf g qq (g 1 (256 * pp + j)) = r_2 by unfold mf; rw [if_neg c_17, er_2]], rfl, rfl, rfl⟩, (Int32.add_zero _).symm, rfl⟩)
  · refine lv_iconst (v := (-1)) hx hb dX4_translated_20 (by decide) ?_
    refine lv_goto (tgt := 31) hx hb dX4_translated_21 (by decide) ?_
    refine lv_istore (lv' := [(5, .int (-1)), (4, .int (g 1 ((256 * pp) + j))), (0, .ref (ad 0)), (1, .int (nI j)), (2, .int (nI pp)), (3, .int (nI qq))]) hx hb dX4_translated_31 hl (by decide) rfl (fun ls hl => ?_)
    refine lv_iload hx hb dX4_translated_33 (lv_at hl 0 rfl) ?_
    refine lv_iconst (v := (-1)) hx hb dX4_translated_35 (by decide) ?_
    refine lv_icmp_eq (tgt := 42) hx hb dX4_translated_36 (by decide) (fun _ => ?_) (fun c9 => absurd (by decide) c9)
    refine lv_aload_n hx hb dX4_translated_42 rfl (lv_at hl 2 rfl) ?_
    refine mo_get (x := .int (v 12)) hE iX4_translated_X4 hP 12 (by decide) mX4_translated_f59 rfl rfl dX4_translated_43 ?_
    refine rw_i (v := nI (n 3)) hV.2.2.2 ?_
    refine lv_sipush (v := nI 200) hx hb dX4_translated_46 (by decide) ?_
    refine lv_icmp_ge (tgt := 72) hx hb dX4_translated_49 (by decide) (fun c_49 => ?_) (fun c_49 => ?_)
    · have k_49 : 200 ≤ (n 3) := nn_le (a := 200) (b := (n 3)) c_49 (by omega) (by omega)
      refine lv_aload_n hx hb dX4_translated_72 rfl (lv_at hl 2 rfl) ?_
      refine lv_dup hx hb dX4_translated_73 rfl ?_
      refine mo_get (x := .int (v 13)) hE iX4_translated_X4 hP 13 (by decide) mX4_translated_f62 rfl rfl dX4_translated_74 ?_
      refine lv_iconst (v := 1) hx hb dX4_translated_77 (by decide) ?_
      refine lv_iadd hx hb dX4_translated_78 ?_
      refine mo_put hE iX4_translated_X4 hP hS 13 (by decide) mX4_translated_f62 rfl rfl (by decide +kernel) rfl dX4_translated_79 (fun H locs hP hS => ?_)
      refine lv_aload_n hx hb dX4_translated_82 rfl (lv_at hl 2 rfl) ?_
      refine mo_get (x := .ref (ad 2)) hE iX4_translated_X4 hP 2 (by decide) mX4_translated_f13 rfl rfl dX4_translated_83 ?_
      refine lv_iload_n hx hb dX4_translated_86 rfl (lv_at hl 5 rfl) ?_
      refine mo_ld (n := 12) hE hN hP 0 2 rfl (by decide) rfl (by decide) dX4_translated_87 (by omega) ?_
      exact mw_iret (v := g 2 qq) hE hr hlocks hP hS dX4_translated_88 (⟨_, _, n, 1, rfl, hV, Or.inr ⟨(by rw [show mf g qq (g 1 (256 * pp + j)) = -1 by unfold mf; rw [if_pos c_17]]), rfl, rfl, Or.inr ⟨by omega, rfl, rfl⟩⟩, rfl, rfl⟩)
    · have k_49 : (n 3) < 200 := nn_nle (a := 200) (b := (n 3)) c_49 (by omega) (by omega)
      refine lv_aload_n hx hb dX4_translated_52 rfl (lv_at hl 2 rfl) ?_
      refine mo_get (x := .ref (ad 11)) hE iX4_translated_X4 hP 11 (by decide) mX4_translated_f31 rfl rfl dX4_translated_53 ?_
      refine lv_aload_n hx hb dX4_translated_56 rfl (lv_at hl 2 rfl) ?_
      refine mo_get (x := .int (v 12)) hE iX4_translated_X4 hP 12 (by decide) mX4_translated_f59 rfl rfl dX4_translated_57 ?_
      refine rw_i (v := nI (n 3)) hV.2.2.2 ?_
      refine lv_iload_n hx hb dX4_translated_60 rfl (lv_at hl 3 rfl) ?_
      refine mo_st (n := 200) hE hN hP hS 0 11 rfl (by decide) rfl (by decide) dX4_translated_61 (by omega) (fun H locs hP hS => ?_)
      refine lv_aload_n hx hb dX4_translated_62 rfl (lv_at hl 2 rfl) ?_
      refine lv_dup hx hb dX4_translated_63 rfl ?_
      refine mo_get (x := .int (v 12)) hE iX4_translated_X4 hP 12 (by decide) mX4_translated_f59 rfl rfl dX4_translated_64 ?_
      refine rw_i (v := nI (n 3)) hV.2.2.2 ?_
      refine lv_iconst (v := 1) hx hb dX4_translated_67 (by decide) ?_
      refine lv_iadd hx hb dX4_translated_68 ?_
      refine rw_i (v := nI ((n 3) + 1)) (nI_1 _) ?_
      refine mo_put hE iX4_translated_X4 hP hS 12 (by decide) mX4_translated_f59 rfl rfl (by decide +kernel) rfl dX4_translated_69 (fun H locs hP hS => ?_)
      refine lv_aload_n hx hb dX4_translated_72 rfl (lv_at hl 2 rfl) ?_
      refine lv_dup hx hb dX4_translated_73 rfl ?_
      refine mo_get (x := .int (v 13)) hE iX4_translated_X4 hP 13 (by decide) mX4_translated_f62 rfl rfl dX4_translated_74 ?_
      refine lv_iconst (v := 1) hx hb dX4_translated_77 (by decide) ?_
      refine lv_iadd hx hb dX4_translated_78 ?_
      refine mo_put hE iX4_translated_X4 hP hS 13 (by decide) mX4_translated_f62 rfl rfl (by decide +kernel) rfl dX4_translated_79 (fun H locs hP hS => ?_)
      refine lv_aload_n hx hb dX4_translated_82 rfl (lv_at hl 2 rfl) ?_
      refine mo_get (x := .ref (ad 2)) hE iX4_translated_X4 hP 2 (by decide) mX4_translated_f13 rfl rfl dX4_translated_83 ?_
      refine lv_iload_n hx hb dX4_translated_86 rfl (lv_at hl 5 rfl) ?_
      refine mo_ld (n := 12) hE hN hP 0 2 rfl (by decide) rfl (by decide) dX4_translated_87 (by omega) ?_
      refine rw_i (v := g 2 qq) rfl ?_
      exact mw_iret (v := g 2 qq) hE hr hlocks hP hS dX4_translated_88 (⟨_, _, va_up n 3 (n 3 + 1), 1, rfl, ⟨hV.1, hV.2.1, hV.2.2.1, rfl⟩, Or.inr ⟨(by rw [show mf g qq (g 1 (256 * pp + j)) = -1 by unfold mf; rw [if_pos c_17]]), rfl, rfl, Or.inl ⟨by omega, rfl, rfl⟩⟩, rfl, rfl⟩)

set_option maxRecDepth 20000 in
theorem mX4_translate_f34 : Cond.fieldLink RX4 34 "CodePagesModel" "code" "I" ∈ wsX4_translate := by decide +kernel
set_option maxRecDepth 20000 in
theorem iX4_translate_X4 : ∀ w ∈ u_ws RX4 TX4 14, w ∈ wsX4_translate := by decide +kernel
set_option maxHeartbeats 4000000 in
set_option maxRecDepth 100000 in
theorem tX4_translate (l : Launch) (D : va_G) (k : Nat → ClassId) (M : mw) (sz : Nat) (ad : Nat → Nat) (v : Nat → Int32) (g : Nat → Nat → Int32) (n : Nat → Nat) (x y z : Int32) (hN : mo_N ad) (hV : mo_V v n) (hn9 : mo_B n) (hM : M = mo_M (k 0) ad v g) : Met l yX4_translate wsX4_translate ({ frames := 2, cells := 0, slots := 0, locals := 49 }) (va_Pc [.ref (ad 0), .int x, .int y, .int z] (mw_U D vwCl (TY k) M sz)) (va_Qi (fun r M1 => ∃ v1 g1 n1, M1 = mo_M (k 0) ad v1 g1 ∧ mo_V v1 n1 ∧ R_translate n g x y z r n1 g1) (mw_B D vwCl M sz) (mw_A M sz)) 0 0 (mw_A M sz) := by
  refine mw_met (cc := cX4_translate) (maxL := 4) (ret := (some .int)) (lv := [(0, .ref (ad 0)), (1, .int x), (2, .int y), (3, .int z)]) (by decide) rfl (Nat.le_of_ble_eq_true rfl) rfl ?_
  intro p e s m below meth c ls hE hr hlocks hin hml hsz hP hS hl
  subst hsz
  have hx := hE.1
  have hb := hE.2.1
  have hA : ∀ q, s.heap.size ≤ q → mw_A M s.heap.size q := fun q h => Or.inr h
  have hP : mw_Q (mw_A M s.heap.size) D vwCl (mo_M (k 0) ad v g) s.heap := by rw [← hM]; exact hP
  obtain ⟨hb0, hb1, hb2, hb3⟩ := hn9
  refine lv_aload_n hx hb dX4_translate_0 rfl (lv_at hl 0 rfl) ?_
  refine lv_iconst (v := 0) hx hb dX4_translate_1 (by decide) ?_
  refine mo_put hE iX4_translate_X4 hP hS 0 (by decide) mX4_translate_f34 rfl rfl (by decide +kernel) rfl dX4_translate_2 (fun H locs hP hS => ?_)
  refine lv_aload_n hx hb dX4_translate_5 rfl (lv_at hl 0 rfl) ?_
  refine lv_iload_n hx hb dX4_translate_6 rfl (lv_at hl 2 rfl) ?_
  refine mw_calli hP hS hA (va_runV (As := [.int y]) (rest := []) ⟨hx, hb, hml, hE.2.2.2.1, hE.2.2.1⟩ (tX4_isPage l D k _ _ ad (va_up v 0 0) g n y hN hV ⟨hb0, hb1, hb2, hb3⟩ rfl) (cwV 1 hE.2.2.1 gX4_translate_X4_isPage rfl rfl rfl (by decide +kernel) ⟨(Nat.le_of_ble_eq_true rfl), (Nat.le_of_ble_eq_true rfl)⟩) (mw_preV hE hP (ci := 5) rfl rfl mo_o [.int y]) rfl rfl hl.1 rfl (lv_room (Nat.le_of_ble_eq_true rfl)) dX4_translate_7 ⟨(Nat.le_of_ble_eq_true rfl), (Nat.le_of_ble_eq_true rfl)⟩) (fun r_1 M1 H locs hw hP hS => ?_)
  obtain ⟨rfl, hw⟩ := hw
  rcases hw with ⟨hq_2, rfl⟩ | ⟨hq_2, rfl⟩
  · obtain ⟨pp, hpp, rfl⟩ := vp_in_of hq_2 (by omega)
    refine lv_if_eq (tgt := 21) hx hb dX4_translate_10 (by decide) (fun c9 => absurd c9 (by decide)) (fun _ => ?_)
    refine lv_aload_n hx hb dX4_translate_13 rfl (lv_at hl 0 rfl) ?_
    refine lv_iload_n hx hb dX4_translate_14 rfl (lv_at hl 3 rfl) ?_
    refine mw_calli hP hS hA (va_runV (As := [.int z]) (rest := []) ⟨hx, hb, hml, hE.2.2.2.1, hE.2.2.1⟩ (tX4_isPage l D k _ _ ad (va_up v 0 0) g n z hN hV ⟨hb0, hb1, hb2, hb3⟩ rfl) (cwV 1 hE.2.2.1 gX4_translate_X4_isPage rfl rfl rfl (by decide +kernel) ⟨(Nat.le_of_ble_eq_true rfl), (Nat.le_of_ble_eq_true rfl)⟩) (mw_preV hE hP (ci := 5) rfl rfl mo_o [.int z]) rfl rfl hl.1 rfl (lv_room (Nat.le_of_ble_eq_true rfl)) dX4_translate_15 ⟨(Nat.le_of_ble_eq_true rfl), (Nat.le_of_ble_eq_true rfl)⟩) (fun r_4 M1 H locs hw hP hS => ?_)
    obtain ⟨rfl, hw⟩ := hw
    rcases hw with ⟨hq_5, rfl⟩ | ⟨hq_5, rfl⟩
    · obtain ⟨qq, hqq, rfl⟩ := vp_in_of hq_5 (by omega)
      refine lv_if_ne (tgt := 24) hx hb dX4_translate_18 (by decide) (fun _ => ?_) (fun c9 => absurd c9 (by decide))
      refine lv_iload_n hx hb dX4_translate_24 rfl (lv_at hl 1 rfl) ?_
      refine mw_calli hP hS hA (va_runS (As := [.int x]) (rest := []) ⟨hx, hb, hml, hE.2.2.2.1, hE.2.2.1⟩ (tX4_isCode l D k _ _ x) (va_cwS 1 hE.2.2.1 gX4_translate_X4_isCode rfl rfl rfl (by decide +kernel) ⟨(Nat.le_of_ble_eq_true rfl), (Nat.le_of_ble_eq_true rfl)⟩) (mw_preS hE hP [.int x]) rfl rfl hl.1 rfl (lv_room (Nat.le_of_ble_eq_true rfl)) dX4_translate_25 ⟨(Nat.le_of_ble_eq_true rfl), (Nat.le_of_ble_eq_true rfl)⟩) (fun r_7 M1 H locs hw hP hS => ?_)
      obtain ⟨rfl, hw⟩ := hw
      rcases hw with ⟨hq_8, rfl⟩ | ⟨hq_8, rfl⟩
      · obtain ⟨j, hj, rfl⟩ := vp_in_of hq_8 (by omega)
        refine lv_if_eq (tgt := 41) hx hb dX4_translate_28 (by decide) (fun c9 => absurd c9 (by decide)) (fun _ => ?_)
        refine lv_aload_n hx hb dX4_translate_31 rfl (lv_at hl 0 rfl) ?_
        refine lv_iload_n hx hb dX4_translate_32 rfl (lv_at hl 1 rfl) ?_
        refine lv_iload_n hx hb dX4_translate_33 rfl (lv_at hl 2 rfl) ?_
        refine lv_iload_n hx hb dX4_translate_34 rfl (lv_at hl 3 rfl) ?_
        refine mw_calli hP hS hA (va_runV (As := [.int (nI j), .int (nI pp), .int (nI qq)]) (rest := []) ⟨hx, hb, hml, hE.2.2.2.1, hE.2.2.1⟩ (tX4_translated l D k _ _ ad (va_up v 0 0) g n j pp qq hN hV ⟨hb0, hb1, hb2, hb3⟩ rfl (by omega) (by omega) (by omega)) (cwV 3 hE.2.2.1 gX4_translate_X4_translated rfl rfl rfl (by decide +kernel) ⟨(Nat.le_of_ble_eq_true rfl), (Nat.le_of_ble_eq_true rfl)⟩) (mw_preV hE hP (ci := 5) rfl rfl mo_o [.int (nI j), .int (nI pp), .int (nI qq)]) rfl rfl hl.1 rfl (lv_room (Nat.le_of_ble_eq_true rfl)) dX4_translate_35 ⟨(Nat.le_of_ble_eq_true rfl), (Nat.le_of_ble_eq_true rfl)⟩) (fun r_10 M1 H locs hw hP hS => ?_)
        obtain ⟨v1, g1, n1, d1, rfl, hV1, hR1, hc1, h01⟩ := hw
        refine lv_goto (tgt := 43) hx hb dX4_translate_38 (by decide) ?_
        exact mw_iret (v := r_10) hE hr hlocks hP hS dX4_translate_43 (⟨v1, g1, n1, rfl, hV1, Or.inr (Or.inr ⟨j, pp, qq, d1, hj, hpp, hqq, rfl, rfl, rfl, hR1⟩)⟩)
      · refine lv_if_eq (tgt := 41) hx hb dX4_translate_28 (by decide) (fun _ => ?_) (fun c9 => absurd (by decide) c9)
        refine lv_bipush (v := (-4)) hx hb dX4_translate_41 (by decide) ?_
        exact mw_iret (v := (-4)) hE hr hlocks hP hS dX4_translate_43 (⟨va_up v 0 0, g, n, rfl, hV, Or.inr (Or.inl ⟨⟨vp_in_nI hpp (by omega), vp_in_nI hqq (by omega)⟩, hq_8, rfl, rfl, rfl⟩)⟩)
    · refine lv_if_ne (tgt := 24) hx hb dX4_translate_18 (by decide) (fun c9 => absurd (by decide) c9) (fun _ => ?_)
      refine lv_bipush (v := (-2)) hx hb dX4_translate_21 (by decide) ?_
      exact mw_iret (v := (-2)) hE hr hlocks hP hS dX4_translate_23 (⟨va_up v 0 0, g, n, rfl, hV, Or.inl ⟨fun h => hq_5 h.2, rfl, rfl, rfl⟩⟩)
  · refine lv_if_eq (tgt := 21) hx hb dX4_translate_10 (by decide) (fun _ => ?_) (fun c9 => absurd (by decide) c9)
    refine lv_bipush (v := (-2)) hx hb dX4_translate_21 (by decide) ?_
    exact mw_iret (v := (-2)) hE hr hlocks hP hS dX4_translate_23 (⟨va_up v 0 0, g, n, rfl, hV, Or.inl ⟨fun h => hq_2 h.1, rfl, rfl, rfl⟩⟩)

set_option maxRecDepth 20000 in
theorem mX4_told_f31 : Cond.fieldLink RX4 31 "CodePagesModel" "listed" "[I" ∈ wsX4_told := by decide +kernel
set_option maxRecDepth 20000 in
theorem mX4_told_f34 : Cond.fieldLink RX4 34 "CodePagesModel" "code" "I" ∈ wsX4_told := by decide +kernel
set_option maxRecDepth 20000 in
theorem mX4_told_f59 : Cond.fieldLink RX4 59 "CodePagesModel" "list" "I" ∈ wsX4_told := by decide +kernel
set_option maxRecDepth 20000 in
theorem iX4_told_X4 : ∀ w ∈ u_ws RX4 TX4 14, w ∈ wsX4_told := by decide +kernel
set_option maxHeartbeats 4000000 in
set_option maxRecDepth 100000 in
theorem tX4_told (l : Launch) (D : va_G) (k : Nat → ClassId) (M : mw) (sz : Nat) (ad : Nat → Nat) (v : Nat → Int32) (g : Nat → Nat → Int32) (n : Nat → Nat) (x : Int32) (hN : mo_N ad) (hV : mo_V v n) (hn9 : mo_B n) (hM : M = mo_M (k 0) ad v g) : Met l yX4_told wsX4_told ({ frames := 0, cells := 0, slots := 0, locals := 0 }) (va_Pc [.ref (ad 0), .int x] (mw_U D vwCl (TY k) M sz)) (va_Qi (fun r M1 => ∃ v1, M1 = mo_M (k 0) ad v1 g ∧ mo_V v1 n ∧ R_told n g x r) (mw_B D vwCl M sz) (mw_A M sz)) 0 0 (mw_A M sz) := by
  refine mw_met (cc := cX4_told) (maxL := 2) (ret := (some .int)) (lv := [(0, .ref (ad 0)), (1, .int x)]) (by decide) rfl (Nat.le_of_ble_eq_true rfl) rfl ?_
  intro p e s m below meth c ls hE hr hlocks hin hml hsz hP hS hl
  subst hsz
  have hx := hE.1
  have hb := hE.2.1
  have hA : ∀ q, s.heap.size ≤ q → mw_A M s.heap.size q := fun q h => Or.inr h
  have hP : mw_Q (mw_A M s.heap.size) D vwCl (mo_M (k 0) ad v g) s.heap := by rw [← hM]; exact hP
  obtain ⟨hb0, hb1, hb2, hb3⟩ := hn9
  refine lv_aload_n hx hb dX4_told_0 rfl (lv_at hl 0 rfl) ?_
  refine lv_iconst (v := 0) hx hb dX4_told_1 (by decide) ?_
  refine mo_put hE iX4_told_X4 hP hS 0 (by decide) mX4_told_f34 rfl rfl (by decide +kernel) rfl dX4_told_2 (fun H locs hP hS => ?_)
  refine lv_iload_n hx hb dX4_told_5 rfl (lv_at hl 1 rfl) ?_
  refine lv_if_lt (tgt := 26) hx hb dX4_told_6 (by decide) (fun c_6 => ?_) (fun c_6 => ?_)
  · refine lv_iconst (v := (-1)) hx hb dX4_told_26 (by decide) ?_
    exact mw_iret (v := (-1)) hE hr hlocks hP hS dX4_told_27 (⟨va_up v 0 0, rfl, hV, Or.inl ⟨fun q => ((rw_in (n := n 3) (by omega)).mp q).1 c_6, rfl⟩⟩)
  · refine lv_iload_n hx hb dX4_told_9 rfl (lv_at hl 1 rfl) ?_
    refine lv_aload_n hx hb dX4_told_10 rfl (lv_at hl 0 rfl) ?_
    refine mo_get (x := .int (v 12)) hE iX4_told_X4 hP 12 (by decide) mX4_told_f59 rfl rfl dX4_told_11 ?_
    refine rw_i (v := nI (n 3)) hV.2.2.2 ?_
    refine lv_icmp_ge (tgt := 26) hx hb dX4_told_14 (by decide) (fun c_14 => ?_) (fun c_14 => ?_)
    · refine lv_iconst (v := (-1)) hx hb dX4_told_26 (by decide) ?_
      exact mw_iret (v := (-1)) hE hr hlocks hP hS dX4_told_27 (⟨va_up v 0 0, rfl, hV, Or.inl ⟨fun q => ((rw_in (n := n 3) (by omega)).mp q).2 c_14, rfl⟩⟩)
    · obtain ⟨i, hi, rfl⟩ := vp_in_of ((rw_in (n := n 3) (by omega)).mpr ⟨c_6, c_14⟩) (by omega)
      refine lv_aload_n hx hb dX4_told_17 rfl (lv_at hl 0 rfl) ?_
      refine mo_get (x := .ref (ad 11)) hE iX4_told_X4 hP 11 (by decide) mX4_told_f31 rfl rfl dX4_told_18 ?_
      refine lv_iload_n hx hb dX4_told_21 rfl (lv_at hl 1 rfl) ?_
      refine mo_ld (n := 200) hE hN hP 0 11 rfl (by decide) rfl (by decide) dX4_told_22 (by omega) ?_
      refine lv_goto (tgt := 27) hx hb dX4_told_23 (by decide) ?_
      exact mw_iret (v := g 11 i) hE hr hlocks hP hS dX4_told_27 (⟨va_up v 0 0, rfl, hV, Or.inr ⟨i, hi, rfl, rfl⟩⟩)

set_option maxRecDepth 20000 in
theorem mX4_text_f34 : Cond.fieldLink RX4 34 "CodePagesModel" "code" "I" ∈ wsX4_text := by decide +kernel
set_option maxRecDepth 20000 in
theorem mX4_text_f44 : Cond.fieldLink RX4 44 "CodePagesModel" "many" "I" ∈ wsX4_text := by decide +kernel
set_option maxRecDepth 20000 in
theorem iX4_text_X4 : ∀ w ∈ u_ws RX4 TX4 14, w ∈ wsX4_text := by decide +kernel
set_option maxHeartbeats 4000000 in
set_option maxRecDepth 100000 in
theorem tX4_text (l : Launch) (D : va_G) (k : Nat → ClassId) (M : mw) (sz : Nat) (ad : Nat → Nat) (v : Nat → Int32) (g : Nat → Nat → Int32) (n : Nat → Nat)  (hN : mo_N ad) (hV : mo_V v n) (hn9 : mo_B n) (hM : M = mo_M (k 0) ad v g) : Met l yX4_text wsX4_text ({ frames := 0, cells := 0, slots := 0, locals := 0 }) (va_Pc [.ref (ad 0)] (mw_U D vwCl (TY k) M sz)) (va_Qi (fun r M1 => ∃ v1 n1, M1 = mo_M (k 0) ad v1 g ∧ mo_V v1 n1 ∧ R_text n r n1) (mw_B D vwCl M sz) (mw_A M sz)) 0 0 (mw_A M sz) := by
  refine mw_met (cc := cX4_text) (maxL := 1) (ret := (some .int)) (lv := [(0, .ref (ad 0))]) (by decide) rfl (Nat.le_of_ble_eq_true rfl) rfl ?_
  intro p e s m below meth c ls hE hr hlocks hin hml hsz hP hS hl
  subst hsz
  have hx := hE.1
  have hb := hE.2.1
  have hA : ∀ q, s.heap.size ≤ q → mw_A M s.heap.size q := fun q h => Or.inr h
  have hP : mw_Q (mw_A M s.heap.size) D vwCl (mo_M (k 0) ad v g) s.heap := by rw [← hM]; exact hP
  obtain ⟨hb0, hb1, hb2, hb3⟩ := hn9
  refine lv_aload_n hx hb dX4_text_0 rfl (lv_at hl 0 rfl) ?_
  refine lv_iconst (v := 0) hx hb dX4_text_1 (by decide) ?_
  refine mo_put hE iX4_text_X4 hP hS 0 (by decide) mX4_text_f34 rfl rfl (by decide +kernel) rfl dX4_text_2 (fun H locs hP hS => ?_)
  refine lv_aload_n hx hb dX4_text_5 rfl (lv_at hl 0 rfl) ?_
  refine mo_get (x := .int (v 10)) hE iX4_text_X4 hP 10 (by decide) mX4_text_f44 rfl rfl dX4_text_6 ?_
  refine rw_i (v := nI (n 2)) hV.2.2.1 ?_
  refine lv_bipush (v := nI 40) hx hb dX4_text_9 (by decide) ?_
  refine lv_icmp_ne (tgt := 16) hx hb dX4_text_11 (by decide) (fun c_11 => ?_) (fun c_11 => ?_)
  · have k_11 : (n 2) ≠ 40 := nn_neq (a := (n 2)) (b := 40) c_11 (by omega) (by omega)
    refine lv_aload_n hx hb dX4_text_16 rfl (lv_at hl 0 rfl) ?_
    refine lv_dup hx hb dX4_text_17 rfl ?_
    refine mo_get (x := .int (v 10)) hE iX4_text_X4 hP 10 (by decide) mX4_text_f44 rfl rfl dX4_text_18 ?_
    refine rw_i (v := nI (n 2)) hV.2.2.1 ?_
    refine lv_iconst (v := 1) hx hb dX4_text_21 (by decide) ?_
    refine lv_iadd hx hb dX4_text_22 ?_
    refine rw_i (v := nI ((n 2) + 1)) (nI_1 _) ?_
    refine mo_put hE iX4_text_X4 hP hS 10 (by decide) mX4_text_f44 rfl rfl (by decide +kernel) rfl dX4_text_23 (fun H locs hP hS => ?_)
    refine lv_aload_n hx hb dX4_text_26 rfl (lv_at hl 0 rfl) ?_
    refine mo_get (x := .int (nI ((n 2) + 1))) hE iX4_text_X4 hP 10 (by decide) mX4_text_f44 rfl rfl dX4_text_27 ?_
    refine lv_iconst (v := 1) hx hb dX4_text_30 (by decide) ?_
    refine lv_isub hx hb dX4_text_31 ?_
    refine rw_i (v := nI (n 2)) (nI_pred _) ?_
    exact mw_iret (v := nI (n 2)) hE hr hlocks hP hS dX4_text_32 (⟨_, va_up n 2 (n 2 + 1), rfl, ⟨hV.1, hV.2.1, rfl, hV.2.2.2⟩, Or.inr ⟨by omega, rfl, rfl⟩⟩)
  · have k_11 : (n 2) = 40 := nn_eq (a := (n 2)) (b := 40) c_11 (by omega) (by omega)
    refine lv_iconst (v := (-1)) hx hb dX4_text_14 (by decide) ?_
    exact mw_iret (v := (-1)) hE hr hlocks hP hS dX4_text_15 (⟨_, n, rfl, hV, Or.inl ⟨k_11, rfl, rfl⟩⟩)

set_option maxRecDepth 20000 in
theorem mX4_sign_f25 : Cond.fieldLink RX4 25 "CodePagesModel" "texts" "[I" ∈ wsX4_sign := by decide +kernel
set_option maxRecDepth 20000 in
theorem mX4_sign_f28 : Cond.fieldLink RX4 28 "CodePagesModel" "lengths" "[I" ∈ wsX4_sign := by decide +kernel
set_option maxRecDepth 20000 in
theorem mX4_sign_f34 : Cond.fieldLink RX4 34 "CodePagesModel" "code" "I" ∈ wsX4_sign := by decide +kernel
set_option maxRecDepth 20000 in
theorem iX4_sign_X4 : ∀ w ∈ u_ws RX4 TX4 14, w ∈ wsX4_sign := by decide +kernel
set_option maxHeartbeats 4000000 in
set_option maxRecDepth 100000 in
theorem tX4_sign (l : Launch) (D : va_G) (k : Nat → ClassId) (M : mw) (sz : Nat) (ad : Nat → Nat) (v : Nat → Int32) (g : Nat → Nat → Int32) (n : Nat → Nat) (L : Nat → Nat) (T : Nat → Nat → Nat) (x y : Int32) (hN : mo_N ad) (hV : mo_V v n) (hn9 : mo_B n) (hM : M = mo_M (k 0) ad v g) (hX : mo_X n g L T) : Met l yX4_sign wsX4_sign ({ frames := 1, cells := 0, slots := 0, locals := 21 }) (va_Pc [.ref (ad 0), .int x, .int y] (mw_U D vwCl (TY k) M sz)) (va_Qi (fun r M1 => ∃ v1 g1, M1 = mo_M (k 0) ad v1 g1 ∧ mo_V v1 n ∧ R_sign n g L x y r g1) (mw_B D vwCl M sz) (mw_A M sz)) 0 0 (mw_A M sz) := by
  refine mw_met (cc := cX4_sign) (maxL := 3) (ret := (some .int)) (lv := [(0, .ref (ad 0)), (1, .int x), (2, .int y)]) (by decide) rfl (Nat.le_of_ble_eq_true rfl) rfl ?_
  intro p e s m below meth c ls hE hr hlocks hin hml hsz hP hS hl
  subst hsz
  have hx := hE.1
  have hb := hE.2.1
  have hA : ∀ q, s.heap.size ≤ q → mw_A M s.heap.size q := fun q h => Or.inr h
  have hP : mw_Q (mw_A M s.heap.size) D vwCl (mo_M (k 0) ad v g) s.heap := by rw [← hM]; exact hP
  obtain ⟨hb0, hb1, hb2, hb3⟩ := hn9
  refine lv_aload_n hx hb dX4_sign_0 rfl (lv_at hl 0 rfl) ?_
  refine lv_iconst (v := 0) hx hb dX4_sign_1 (by decide) ?_
  refine mo_put hE iX4_sign_X4 hP hS 0 (by decide) mX4_sign_f34 rfl rfl (by decide +kernel) rfl dX4_sign_2 (fun H locs hP hS => ?_)
  refine lv_aload_n hx hb dX4_sign_5 rfl (lv_at hl 0 rfl) ?_
  refine lv_iload_n hx hb dX4_sign_6 rfl (lv_at hl 1 rfl) ?_
  refine mw_calli hP hS hA (va_runV (As := [.int x]) (rest := []) ⟨hx, hb, hml, hE.2.2.2.1, hE.2.2.1⟩ (tX4_isText l D k _ _ ad (va_up v 0 0) g n x hN hV ⟨hb0, hb1, hb2, hb3⟩ rfl) (cwV 1 hE.2.2.1 gX4_sign_X4_isText rfl rfl rfl (by decide +kernel) ⟨(Nat.le_of_ble_eq_true rfl), (Nat.le_of_ble_eq_true rfl)⟩) (mw_preV hE hP (ci := 5) rfl rfl mo_o [.int x]) rfl rfl hl.1 rfl (lv_room (Nat.le_of_ble_eq_true rfl)) dX4_sign_7 ⟨(Nat.le_of_ble_eq_true rfl), (Nat.le_of_ble_eq_true rfl)⟩) (fun r_1 M1 H locs hw hP hS => ?_)
  obtain ⟨rfl, hw⟩ := hw
  rcases hw with ⟨hq_2, rfl⟩ | ⟨hq_2, rfl⟩
  · obtain ⟨t, ht, rfl⟩ := vp_in_of hq_2 (by omega)
    refine lv_if_ne (tgt := 16) hx hb dX4_sign_10 (by decide) (fun _ => ?_) (fun c9 => absurd c9 (by decide))
    refine lv_iload_n hx hb dX4_sign_16 rfl (lv_at hl 2 rfl) ?_
    refine mw_calli hP hS hA (va_runS (As := [.int y]) (rest := []) ⟨hx, hb, hml, hE.2.2.2.1, hE.2.2.1⟩ (tX4_isCode l D k _ _ y) (va_cwS 1 hE.2.2.1 gX4_sign_X4_isCode rfl rfl rfl (by decide +kernel) ⟨(Nat.le_of_ble_eq_true rfl), (Nat.le_of_ble_eq_true rfl)⟩) (mw_preS hE hP [.int y]) rfl rfl hl.1 rfl (lv_room (Nat.le_of_ble_eq_true rfl)) dX4_sign_17 ⟨(Nat.le_of_ble_eq_true rfl), (Nat.le_of_ble_eq_true rfl)⟩) (fun r_4 M1 H locs hw hP hS => ?_)
    obtain ⟨rfl, hw⟩ := hw
    rcases hw with ⟨hq_5, rfl⟩ | ⟨hq_5, rfl⟩
    · obtain ⟨j, hj, rfl⟩ := vp_in_of hq_5 (by omega)
      refine lv_if_ne (tgt := 26) hx hb dX4_sign_20 (by decide) (fun _ => ?_) (fun c9 => absurd c9 (by decide))
      obtain ⟨hL4, hL9, hT9⟩ := hX t ht
      refine lv_aload_n hx hb dX4_sign_26 rfl (lv_at hl 0 rfl) ?_
      refine mo_get (x := .ref (ad 9)) hE iX4_sign_X4 hP 9 (by decide) mX4_sign_f28 rfl rfl dX4_sign_27 ?_
      refine lv_iload_n hx hb dX4_sign_30 rfl (lv_at hl 1 rfl) ?_
      refine mo_ld (n := 40) hE hN hP 0 9 rfl (by decide) rfl (by decide) dX4_sign_31 (by omega) ?_
      refine rw_i (v := nI (L t)) hL9 ?_
      refine lv_bipush (v := nI 40) hx hb dX4_sign_32 (by decide) ?_
      refine lv_icmp_ne (tgt := 39) hx hb dX4_sign_34 (by decide) (fun c_34 => ?_) (fun c_34 => ?_)
      · have k_34 : (L t) ≠ 40 := nn_neq (a := (L t)) (b := 40) c_34 (by omega) (by omega)
        refine lv_aload_n hx hb dX4_sign_39 rfl (lv_at hl 0 rfl) ?_
        refine mo_get (x := .ref (ad 8)) hE iX4_sign_X4 hP 8 (by decide) mX4_sign_f25 rfl rfl dX4_sign_40 ?_
        refine lv_bipush (v := nI 40) hx hb dX4_sign_43 (by decide) ?_
        refine lv_iload_n hx hb dX4_sign_45 rfl (lv_at hl 1 rfl) ?_
        refine lv_imul hx hb dX4_sign_46 ?_
        refine rw_i (v := nI (40 * t)) (pk_mul _ _) ?_
        refine lv_aload_n hx hb dX4_sign_47 rfl (lv_at hl 0 rfl) ?_
        refine mo_get (x := .ref (ad 9)) hE iX4_sign_X4 hP 9 (by decide) mX4_sign_f28 rfl rfl dX4_sign_48 ?_
        refine lv_iload_n hx hb dX4_sign_51 rfl (lv_at hl 1 rfl) ?_
        refine mo_ld (n := 40) hE hN hP 0 9 rfl (by decide) rfl (by decide) dX4_sign_52 (by omega) ?_
        refine rw_i (v := nI (L t)) hL9 ?_
        refine lv_iadd hx hb dX4_sign_53 ?_
        refine rw_i (v := nI ((40 * t) + (L t))) (nI_add _ _) ?_
        refine lv_iload_n hx hb dX4_sign_54 rfl (lv_at hl 2 rfl) ?_
        refine mo_st (n := 1600) hE hN hP hS 0 8 rfl (by decide) rfl (by decide) dX4_sign_55 (by omega) (fun H locs hP hS => ?_)
        refine lv_aload_n hx hb dX4_sign_56 rfl (lv_at hl 0 rfl) ?_
        refine mo_get (x := .ref (ad 9)) hE iX4_sign_X4 hP 9 (by decide) mX4_sign_f28 rfl rfl dX4_sign_57 ?_
        refine lv_iload_n hx hb dX4_sign_60 rfl (lv_at hl 1 rfl) ?_
        refine lv_dup2_11 hx hb dX4_sign_61 rfl rfl ?_
        refine mo_ld (n := 40) hE hN hP 0 9 rfl (by decide) rfl (by decide) dX4_sign_62 (by omega) ?_
        refine rw_i (v := g 9 t) rfl ?_
        refine rw_i (v := nI (L t)) hL9 ?_
        refine lv_iconst (v := 1) hx hb dX4_sign_63 (by decide) ?_
        refine lv_iadd hx hb dX4_sign_64 ?_
        refine rw_i (v := nI ((L t) + 1)) (nI_1 _) ?_
        refine mo_st (n := 40) hE hN hP hS 0 9 rfl (by decide) rfl (by decide) dX4_sign_65 (by omega) (fun H locs hP hS => ?_)
        refine lv_aload_n hx hb dX4_sign_66 rfl (lv_at hl 0 rfl) ?_
        refine mo_get (x := .ref (ad 9)) hE iX4_sign_X4 hP 9 (by decide) mX4_sign_f28 rfl rfl dX4_sign_67 ?_
        refine lv_iload_n hx hb dX4_sign_70 rfl (lv_at hl 1 rfl) ?_
        refine mo_ld (n := 40) hE hN hP 0 9 rfl (by decide) rfl (by decide) dX4_sign_71 (by omega) ?_
        refine rw_i (v := (upd (g 9) t (nI ((L t) + 1))) t) rfl ?_
        refine rw_i (v := nI (L t + 1)) pk_us ?_
        exact mw_iret (v := nI (L t + 1)) hE hr hlocks hP hS dX4_sign_72 (⟨va_up v 0 0, va_up (va_up g 8 (upd (g 8) ((40 * t) + (L t)) (nI j))) 9 (upd (g 9) t (nI ((L t) + 1))), rfl, hV, Or.inr (Or.inr ⟨t, j, ht, hj, rfl, rfl, Or.inr ⟨by omega, rfl, rfl⟩⟩)⟩)
      · have k_34 : (L t) = 40 := nn_eq (a := (L t)) (b := 40) c_34 (by omega) (by omega)
        refine lv_iconst (v := (-1)) hx hb dX4_sign_37 (by decide) ?_
        exact mw_iret (v := (-1)) hE hr hlocks hP hS dX4_sign_38 (⟨va_up v 0 0, g, rfl, hV, Or.inr (Or.inr ⟨t, j, ht, hj, rfl, rfl, Or.inl ⟨k_34, rfl, rfl⟩⟩)⟩)
    · refine lv_if_ne (tgt := 26) hx hb dX4_sign_20 (by decide) (fun c9 => absurd (by decide) c9) (fun _ => ?_)
      refine lv_bipush (v := (-4)) hx hb dX4_sign_23 (by decide) ?_
      exact mw_iret (v := (-4)) hE hr hlocks hP hS dX4_sign_25 (⟨va_up v 0 0, g, rfl, hV, Or.inr (Or.inl ⟨vp_in_nI ht (by omega), hq_5, rfl, rfl⟩)⟩)
  · refine lv_if_ne (tgt := 16) hx hb dX4_sign_10 (by decide) (fun c9 => absurd (by decide) c9) (fun _ => ?_)
    refine lv_bipush (v := (-2)) hx hb dX4_sign_13 (by decide) ?_
    exact mw_iret (v := (-2)) hE hr hlocks hP hS dX4_sign_15 (⟨va_up v 0 0, g, rfl, hV, Or.inl ⟨hq_2, rfl, rfl⟩⟩)
