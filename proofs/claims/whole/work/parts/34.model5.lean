set_option maxRecDepth 20000 in
theorem mX4_whole_f25 : Cond.fieldLink RX4 25 "CodePagesModel" "texts" "[I" ∈ wsX4_whole := by decide +kernel
set_option maxRecDepth 20000 in
theorem mX4_whole_f28 : Cond.fieldLink RX4 28 "CodePagesModel" "lengths" "[I" ∈ wsX4_whole := by decide +kernel
set_option maxRecDepth 20000 in
theorem mX4_whole_f34 : Cond.fieldLink RX4 34 "CodePagesModel" "code" "I" ∈ wsX4_whole := by decide +kernel
set_option maxRecDepth 20000 in
theorem mX4_whole_f62 : Cond.fieldLink RX4 62 "CodePagesModel" "count" "I" ∈ wsX4_whole := by decide +kernel
set_option maxRecDepth 20000 in
theorem iX4_whole_X4 : ∀ w ∈ u_ws RX4 TX4 14, w ∈ wsX4_whole := by decide +kernel
set_option maxHeartbeats 4000000 in
set_option maxRecDepth 100000 in
theorem tX4_whole (l : Launch) (D : va_G) (k : Nat → ClassId) (M : mw) (sz : Nat) (ad : Nat → Nat) (v : Nat → Int32) (g : Nat → Nat → Int32) (n : Nat → Nat) (L : Nat → Nat) (T : Nat → Nat → Nat) (x y z : Int32) (hN : mo_N ad) (hV : mo_V v n) (hn9 : mo_B n) (hM : M = mo_M (k 0) ad v g) (hX : mo_X n g L T) : Met l yX4_whole wsX4_whole ({ frames := 2, cells := 0, slots := 0, locals := 49 }) (va_Pc [.ref (ad 0), .int x, .int y, .int z] (mw_U D vwCl (TY k) M sz)) (va_Qi (fun r M1 => ∃ v1 g1 n1, M1 = mo_M (k 0) ad v1 g1 ∧ mo_V v1 n1 ∧ R_whole n g L T x y z r n1 g1) (mw_B D vwCl M sz) (mw_A M sz)) 0 0 (mw_A M sz) := by
  refine mw_met (cc := cX4_whole) (maxL := 6) (ret := (some .int)) (lv := [(0, .ref (ad 0)), (1, .int x), (2, .int y), (3, .int z)]) (by decide) rfl (Nat.le_of_ble_eq_true rfl) rfl ?_
  intro p e s m below meth c ls hE hr hlocks hin hml hsz hP hS hl
  subst hsz
  have hx := hE.1
  have hb := hE.2.1
  have hA : ∀ q, s.heap.size ≤ q → mw_A M s.heap.size q := fun q h => Or.inr h
  obtain ⟨Q, hQ⟩ : ∃ Q : State → Prop, Q = MQ below (va_Qi (fun r M1 => ∃ v1 g1 n1, M1 = mo_M (k 0) ad v1 g1 ∧ mo_V v1 n1 ∧ R_whole n g L T x y z r n1 g1) (mw_B D vwCl M s.heap.size) (mw_A M s.heap.size)) ([.ref (ad 0), .int x, .int y, .int z] : List Value).toArray s 0 0 (mw_A M s.heap.size) := ⟨_, rfl⟩
  rw [← hQ]
  have hP : mw_Q (mw_A M s.heap.size) D vwCl (mo_M (k 0) ad v g) s.heap := by rw [← hM]; exact hP
  obtain ⟨hb0, hb1, hb2, hb3⟩ := hn9
  refine lv_aload_n hx hb dX4_whole_0 rfl (lv_at hl 0 rfl) ?_
  refine lv_iconst (v := 0) hx hb dX4_whole_1 (by decide) ?_
  refine mo_put hE iX4_whole_X4 hP hS 0 (by decide) mX4_whole_f34 rfl rfl (by decide +kernel) rfl dX4_whole_2 (fun H locs hP hS => ?_)
  refine lv_aload_n hx hb dX4_whole_5 rfl (lv_at hl 0 rfl) ?_
  refine lv_iload_n hx hb dX4_whole_6 rfl (lv_at hl 1 rfl) ?_
  refine mw_calli hP hS hA (va_runV (As := [.int x]) (rest := []) ⟨hx, hb, hml, hE.2.2.2.1, hE.2.2.1⟩ (tX4_isText l D k _ _ ad (va_up v 0 0) g n x hN hV ⟨hb0, hb1, hb2, hb3⟩ rfl) (cwV 1 hE.2.2.1 gX4_whole_X4_isText rfl rfl rfl (by decide +kernel) ⟨(Nat.le_of_ble_eq_true rfl), (Nat.le_of_ble_eq_true rfl)⟩) (mw_preV hE hP (ci := 5) rfl rfl mo_o [.int x]) rfl rfl hl.1 rfl (lv_room (Nat.le_of_ble_eq_true rfl)) dX4_whole_7 ⟨(Nat.le_of_ble_eq_true rfl), (Nat.le_of_ble_eq_true rfl)⟩) (fun r_1 M1 H locs hw hP hS => ?_)
  obtain ⟨rfl, hw⟩ := hw
  rcases hw with ⟨hq_2, rfl⟩ | ⟨hq_2, rfl⟩
  · obtain ⟨t, ht, rfl⟩ := vp_in_of hq_2 (by omega)
    refine lv_if_eq (tgt := 29) hx hb dX4_whole_10 (by decide) (fun c9 => absurd c9 (by decide)) (fun _ => ?_)
    refine lv_aload_n hx hb dX4_whole_13 rfl (lv_at hl 0 rfl) ?_
    refine lv_iload_n hx hb dX4_whole_14 rfl (lv_at hl 2 rfl) ?_
    refine mw_calli hP hS hA (va_runV (As := [.int y]) (rest := []) ⟨hx, hb, hml, hE.2.2.2.1, hE.2.2.1⟩ (tX4_isPage l D k _ _ ad (va_up v 0 0) g n y hN hV ⟨hb0, hb1, hb2, hb3⟩ rfl) (cwV 1 hE.2.2.1 gX4_whole_X4_isPage rfl rfl rfl (by decide +kernel) ⟨(Nat.le_of_ble_eq_true rfl), (Nat.le_of_ble_eq_true rfl)⟩) (mw_preV hE hP (ci := 5) rfl rfl mo_o [.int y]) rfl rfl hl.1 rfl (lv_room (Nat.le_of_ble_eq_true rfl)) dX4_whole_15 ⟨(Nat.le_of_ble_eq_true rfl), (Nat.le_of_ble_eq_true rfl)⟩) (fun r_4 M1 H locs hw hP hS => ?_)
    obtain ⟨rfl, hw⟩ := hw
    rcases hw with ⟨hq_5, rfl⟩ | ⟨hq_5, rfl⟩
    · obtain ⟨pp, hpp, rfl⟩ := vp_in_of hq_5 (by omega)
      refine lv_if_eq (tgt := 29) hx hb dX4_whole_18 (by decide) (fun c9 => absurd c9 (by decide)) (fun _ => ?_)
      refine lv_aload_n hx hb dX4_whole_21 rfl (lv_at hl 0 rfl) ?_
      refine lv_iload_n hx hb dX4_whole_22 rfl (lv_at hl 3 rfl) ?_
      refine mw_calli hP hS hA (va_runV (As := [.int z]) (rest := []) ⟨hx, hb, hml, hE.2.2.2.1, hE.2.2.1⟩ (tX4_isPage l D k _ _ ad (va_up v 0 0) g n z hN hV ⟨hb0, hb1, hb2, hb3⟩ rfl) (cwV 1 hE.2.2.1 gX4_whole_X4_isPage rfl rfl rfl (by decide +kernel) ⟨(Nat.le_of_ble_eq_true rfl), (Nat.le_of_ble_eq_true rfl)⟩) (mw_preV hE hP (ci := 5) rfl rfl mo_o [.int z]) rfl rfl hl.1 rfl (lv_room (Nat.le_of_ble_eq_true rfl)) dX4_whole_23 ⟨(Nat.le_of_ble_eq_true rfl), (Nat.le_of_ble_eq_true rfl)⟩) (fun r_7 M1 H locs hw hP hS => ?_)
      obtain ⟨rfl, hw⟩ := hw
      rcases hw with ⟨hq_8, rfl⟩ | ⟨hq_8, rfl⟩
      · obtain ⟨qq, hqq, rfl⟩ := vp_in_of hq_8 (by omega)
        refine lv_if_ne (tgt := 32) hx hb dX4_whole_26 (by decide) (fun _ => ?_) (fun c9 => absurd c9 (by decide))
        obtain ⟨hL4, hL9, hT9⟩ := hX t ht
        refine lv_aload_n hx hb dX4_whole_32 rfl (lv_at hl 0 rfl) ?_
        refine mo_get (x := .int (v 13)) hE iX4_whole_X4 hP 13 (by decide) mX4_whole_f62 rfl rfl dX4_whole_33 ?_
        refine lv_istore (lv' := [(4, .int (v 13)), (0, .ref (ad 0)), (1, .int (nI t)), (2, .int (nI pp)), (3, .int (nI qq))]) hx hb dX4_whole_36 hl (by decide) rfl (fun ls hl => ?_)
        refine lv_bipush (v := nI 40) hx hb dX4_whole_38 (by decide) ?_
        refine lv_iload_n hx hb dX4_whole_40 rfl (lv_at hl 2 rfl) ?_
        refine lv_imul hx hb dX4_whole_41 ?_
        refine rw_i (v := nI (40 * t)) (pk_mul _ _) ?_
        refine lv_istore (lv' := [(5, .int (nI (40 * t))), (4, .int (v 13)), (0, .ref (ad 0)), (1, .int (nI t)), (2, .int (nI pp)), (3, .int (nI qq))]) hx hb dX4_whole_42 hl (by decide) rfl (fun ls hl => ?_)
        have lp_44 : ∀ (fu : Nat) (kk : Nat) (v1 : Nat → Int32) (g1 : Nat → Nat → Int32) (n1 : Nat → Nat) (dd : Nat), (kk ≤ L t) → (mo_V v1 n1) → (R_wh n g T t pp qq kk n1 g1 dd) → (v1 13 = v 13 + nI dd) → (mo_B n1) → (wh_K n g t kk n1 g1) → L t - kk < fu → ∀ (H : Heap) (locs : List Loc), mw_Q (mw_A M s.heap.size) D vwCl (mo_M (k 0) ad v1 g1) H → va_S (mw_A M s.heap.size) s.heap H locs → ∀ ls : Array Slot, lv_has ls 6 [(0, .ref (ad 0)), (1, .int (nI t)), (2, .int (nI pp)), (3, .int (nI qq)), (4, .int (v 13)), (5, .int (nI (40 * t + kk)))] → W p l e ({ frames := 2, cells := 0, slots := 0, locals := 49 } : Room) s m ([.ref (ad 0), .int (nI t), .int (nI pp), .int (nI qq)] : List Value).toArray below meth c H locs 0 0 Q (F0 m 44 ls []) := by
          intro fu
          induction fu with
          | zero => intro kk v1 g1 n1 dd hkk hV1 hR hc hB1 hKe hn; exact absurd hn (Nat.not_lt_zero _)
          | succ fu ih_44 =>
            intro kk v1 g1 n1 dd hkk hV1 hR hc hB1 hKe hn H locs hP hS ls hl
            refine lv_iload hx hb dX4_whole_44 (lv_at hl 5 rfl) ?_
            refine lv_bipush (v := nI 40) hx hb dX4_whole_46 (by decide) ?_
            refine lv_iload_n hx hb dX4_whole_48 rfl (lv_at hl 1 rfl) ?_
            refine lv_imul hx hb dX4_whole_49 ?_
            refine rw_i (v := nI (40 * t)) (pk_mul _ _) ?_
            refine lv_aload_n hx hb dX4_whole_50 rfl (lv_at hl 0 rfl) ?_
            refine mo_get (x := .ref (ad 9)) hE iX4_whole_X4 hP 9 (by decide) mX4_whole_f28 rfl rfl dX4_whole_51 ?_
            refine lv_iload_n hx hb dX4_whole_54 rfl (lv_at hl 1 rfl) ?_
            refine mo_ld (n := 40) hE hN hP 0 9 rfl (by decide) rfl (by decide) dX4_whole_55 (by omega) ?_
            refine rw_i (v := nI (L t)) (by rw [hKe.2.1]; exact hL9) ?_
            refine lv_iadd hx hb dX4_whole_56 ?_
            refine rw_i (v := nI ((40 * t) + (L t))) (nI_add _ _) ?_
            refine lv_icmp_ge (tgt := 86) hx hb dX4_whole_57 (by decide) (fun c_57 => ?_) (fun c_57 => ?_)
            · have k_57 : ((40 * t) + (L t)) ≤ (40 * t + kk) := nn_le (a := ((40 * t) + (L t))) (b := (40 * t + kk)) c_57 (by omega) (by omega)
              refine lv_aload_n hx hb dX4_whole_86 rfl (lv_at hl 0 rfl) ?_
              refine mo_get (x := .int (v1 13)) hE iX4_whole_X4 hP 13 (by decide) mX4_whole_f62 rfl rfl dX4_whole_87 ?_
              refine lv_iload hx hb dX4_whole_90 (lv_at hl 4 rfl) ?_
              refine lv_isub hx hb dX4_whole_92 ?_
              refine rw_i (v := nI dd) (by rw [hc]; exact i_cancel _ _) ?_
              rw [hQ]
              exact mw_iret (v := nI dd) hE hr hlocks hP hS dX4_whole_93 (⟨v1, g1, n1, rfl, hV1, Or.inr ⟨t, pp, qq, dd, ht, hpp, hqq, rfl, rfl, rfl, rfl, by rw [show L t = kk by omega]; exact hR⟩⟩)
            · have k_57 : (40 * t + kk) < ((40 * t) + (L t)) := nn_nle (a := ((40 * t) + (L t))) (b := (40 * t + kk)) c_57 (by omega) (by omega)
              refine lv_aload_n hx hb dX4_whole_60 rfl (lv_at hl 0 rfl) ?_
              refine mo_get (x := .ref (ad 8)) hE iX4_whole_X4 hP 8 (by decide) mX4_whole_f25 rfl rfl dX4_whole_61 ?_
              refine lv_iload hx hb dX4_whole_64 (lv_at hl 5 rfl) ?_
              refine lv_aload_n hx hb dX4_whole_66 rfl (lv_at hl 0 rfl) ?_
              refine lv_aload_n hx hb dX4_whole_67 rfl (lv_at hl 0 rfl) ?_
              refine mo_get (x := .ref (ad 8)) hE iX4_whole_X4 hP 8 (by decide) mX4_whole_f25 rfl rfl dX4_whole_68 ?_
              refine lv_iload hx hb dX4_whole_71 (lv_at hl 5 rfl) ?_
              refine mo_ld (n := 1600) hE hN hP 0 8 rfl (by decide) rfl (by decide) dX4_whole_73 (by omega) ?_
              refine rw_i (v := nI (T t kk)) (by rw [hKe.2.2 kk (Nat.le_refl _)]; exact (hT9 kk (by omega)).2) ?_
              refine lv_iload_n hx hb dX4_whole_74 rfl (lv_at hl 2 rfl) ?_
              refine lv_iload_n hx hb dX4_whole_75 rfl (lv_at hl 3 rfl) ?_
              refine mw_calli hP hS hA (va_runV (As := [.int (nI (T t kk)), .int (nI pp), .int (nI qq)]) (rest := [.int (nI (40 * t + kk)), .ref (ad 8)]) ⟨hx, hb, hml, hE.2.2.2.1, hE.2.2.1⟩ (tX4_translated l D k _ _ ad v1 g1 n1 (T t kk) pp qq hN hV1 hB1 rfl ((hT9 kk (by omega)).1) (by rw [hKe.1]; exact hpp) (by rw [hKe.1]; exact hqq)) (cwV 3 hE.2.2.1 gX4_whole_X4_translated rfl rfl rfl (by decide +kernel) ⟨(Nat.le_of_ble_eq_true rfl), (Nat.le_of_ble_eq_true rfl)⟩) (mw_preV hE hP (ci := 5) rfl rfl mo_o [.int (nI (T t kk)), .int (nI pp), .int (nI qq)]) rfl rfl hl.1 rfl (lv_room (Nat.le_of_ble_eq_true rfl)) dX4_whole_76 ⟨(Nat.le_of_ble_eq_true rfl), (Nat.le_of_ble_eq_true rfl)⟩) (fun r_11 M1 H locs hw hP hS => ?_)
              obtain ⟨v2, g2, n2, d2, rfl, hV2, hR2, hc2, h02⟩ := hw
              refine mo_st (n := 1600) hE hN hP hS 0 8 rfl (by decide) rfl (by decide) dX4_whole_79 (by omega) (fun H locs hP hS => ?_)
              refine lv_iinc (v := nI ((40 * t + kk) + 1)) (lv' := [(5, .int (nI ((40 * t + kk) + 1))), (0, .ref (ad 0)), (1, .int (nI t)), (2, .int (nI pp)), (3, .int (nI qq)), (4, .int (v 13))]) hx hb dX4_whole_80 hl (k := 5) rfl (nI_1 (40 * t + kk)) (by decide) rfl (fun ls hl => ?_)
              refine lv_goto (tgt := 44) hx hb dX4_whole_83 (by decide) ?_
              exact ih_44 (kk + 1) v2 (va_up g2 8 (upd (g2 8) (40 * t + kk) r_11)) n2 (dd + d2) (by omega) (hV2) (⟨n1, g1, dd, r_11, n2, g2, d2, hR, hR2, rfl, rfl, rfl⟩) (by rw [hc2, hc, Int32.add_assoc, nI_add]) (wh_B hR2 hB1) (wh_k hKe hR2 _) (by omega) H locs hP hS ls (lv_sub hl [1, 2, 3, 4, 5, 0] rfl)
        exact lp_44 (50) 0 (va_up v 0 0) g n 0 (by omega) (hV) (⟨rfl, rfl, rfl⟩) ((Int32.add_zero _).symm) (⟨hb0, hb1, hb2, hb3⟩) (⟨rfl, fun _ => rfl, fun _ _ => rfl⟩) (by omega) _ _ hP hS ls (lv_sub hl [2, 3, 4, 5, 1, 0] rfl)
      · refine lv_if_ne (tgt := 32) hx hb dX4_whole_26 (by decide) (fun c9 => absurd (by decide) c9) (fun _ => ?_)
        refine lv_bipush (v := (-2)) hx hb dX4_whole_29 (by decide) ?_
        rw [hQ]
        exact mw_iret (v := (-2)) hE hr hlocks hP hS dX4_whole_31 (⟨_, _, n, rfl, hV, Or.inl ⟨fun h => hq_8 h.2.2, rfl, rfl, rfl⟩⟩)
    · refine lv_if_eq (tgt := 29) hx hb dX4_whole_18 (by decide) (fun _ => ?_) (fun c9 => absurd (by decide) c9)
      refine lv_bipush (v := (-2)) hx hb dX4_whole_29 (by decide) ?_
      rw [hQ]
      exact mw_iret (v := (-2)) hE hr hlocks hP hS dX4_whole_31 (⟨_, _, n, rfl, hV, Or.inl ⟨fun h => hq_5 h.2.1, rfl, rfl, rfl⟩⟩)
  · refine lv_if_eq (tgt := 29) hx hb dX4_whole_10 (by decide) (fun _ => ?_) (fun c9 => absurd (by decide) c9)
    refine lv_bipush (v := (-2)) hx hb dX4_whole_29 (by decide) ?_
    rw [hQ]
    exact mw_iret (v := (-2)) hE hr hlocks hP hS dX4_whole_31 (⟨_, _, n, rfl, hV, Or.inl ⟨fun h => hq_2 h.1, rfl, rfl, rfl⟩⟩)

set_option maxRecDepth 20000 in
theorem mX4_compare_f34 : Cond.fieldLink RX4 34 "CodePagesModel" "code" "I" ∈ wsX4_compare := by decide +kernel
set_option maxRecDepth 20000 in
theorem iX4_compare_X4 : ∀ w ∈ u_ws RX4 TX4 14, w ∈ wsX4_compare := by decide +kernel
set_option maxHeartbeats 4000000 in
set_option maxRecDepth 100000 in
theorem tX4_compare (l : Launch) (D : va_G) (k : Nat → ClassId) (M : mw) (sz : Nat) (ad : Nat → Nat) (v : Nat → Int32) (g : Nat → Nat → Int32) (n : Nat → Nat) (L : Nat → Nat) (T : Nat → Nat → Nat) (x y z : Int32) (hN : mo_N ad) (hV : mo_V v n) (hn9 : mo_B n) (hM : M = mo_M (k 0) ad v g) (hX : mo_X n g L T) : Met l yX4_compare wsX4_compare ({ frames := 1, cells := 0, slots := 0, locals := 25 }) (va_Pc [.ref (ad 0), .int x, .int y, .int z] (mw_U D vwCl (TY k) M sz)) (va_Qi (fun r M1 => ∃ v1, M1 = mo_M (k 0) ad v1 g ∧ mo_V v1 n ∧ R_compare n g L T x y z r) (mw_B D vwCl M sz) (mw_A M sz)) 0 0 (mw_A M sz) := by
  refine mw_met (cc := cX4_compare) (maxL := 7) (ret := (some .int)) (lv := [(0, .ref (ad 0)), (1, .int x), (2, .int y), (3, .int z)]) (by decide) rfl (Nat.le_of_ble_eq_true rfl) rfl ?_
  intro p e s m below meth c ls hE hr hlocks hin hml hsz hP hS hl
  subst hsz
  have hx := hE.1
  have hb := hE.2.1
  have hA : ∀ q, s.heap.size ≤ q → mw_A M s.heap.size q := fun q h => Or.inr h
  obtain ⟨Q, hQ⟩ : ∃ Q : State → Prop, Q = MQ below (va_Qi (fun r M1 => ∃ v1, M1 = mo_M (k 0) ad v1 g ∧ mo_V v1 n ∧ R_compare n g L T x y z r) (mw_B D vwCl M s.heap.size) (mw_A M s.heap.size)) ([.ref (ad 0), .int x, .int y, .int z] : List Value).toArray s 0 0 (mw_A M s.heap.size) := ⟨_, rfl⟩
  rw [← hQ]
  have hP : mw_Q (mw_A M s.heap.size) D vwCl (mo_M (k 0) ad v g) s.heap := by rw [← hM]; exact hP
  obtain ⟨hb0, hb1, hb2, hb3⟩ := hn9
  refine lv_aload_n hx hb dX4_compare_0 rfl (lv_at hl 0 rfl) ?_
  refine lv_iconst (v := 0) hx hb dX4_compare_1 (by decide) ?_
  refine mo_put hE iX4_compare_X4 hP hS 0 (by decide) mX4_compare_f34 rfl rfl (by decide +kernel) rfl dX4_compare_2 (fun H locs hP hS => ?_)
  refine lv_aload_n hx hb dX4_compare_5 rfl (lv_at hl 0 rfl) ?_
  refine lv_iload_n hx hb dX4_compare_6 rfl (lv_at hl 1 rfl) ?_
  refine mw_calli hP hS hA (va_runV (As := [.int x]) (rest := []) ⟨hx, hb, hml, hE.2.2.2.1, hE.2.2.1⟩ (tX4_isOrder l D k _ _ ad (va_up v 0 0) g n x hN hV ⟨hb0, hb1, hb2, hb3⟩ rfl) (cwV 1 hE.2.2.1 gX4_compare_X4_isOrder rfl rfl rfl (by decide +kernel) ⟨(Nat.le_of_ble_eq_true rfl), (Nat.le_of_ble_eq_true rfl)⟩) (mw_preV hE hP (ci := 5) rfl rfl mo_o [.int x]) rfl rfl hl.1 rfl (lv_room (Nat.le_of_ble_eq_true rfl)) dX4_compare_7 ⟨(Nat.le_of_ble_eq_true rfl), (Nat.le_of_ble_eq_true rfl)⟩) (fun r_1 M1 H locs hw hP hS => ?_)
  obtain ⟨rfl, hw⟩ := hw
  rcases hw with ⟨hq_2, rfl⟩ | ⟨hq_2, rfl⟩
  · obtain ⟨oo, hoo, rfl⟩ := vp_in_of hq_2 (by omega)
    refine lv_if_eq (tgt := 29) hx hb dX4_compare_10 (by decide) (fun c9 => absurd c9 (by decide)) (fun _ => ?_)
    refine lv_aload_n hx hb dX4_compare_13 rfl (lv_at hl 0 rfl) ?_
    refine lv_iload_n hx hb dX4_compare_14 rfl (lv_at hl 2 rfl) ?_
    refine mw_calli hP hS hA (va_runV (As := [.int y]) (rest := []) ⟨hx, hb, hml, hE.2.2.2.1, hE.2.2.1⟩ (tX4_isText l D k _ _ ad (va_up v 0 0) g n y hN hV ⟨hb0, hb1, hb2, hb3⟩ rfl) (cwV 1 hE.2.2.1 gX4_compare_X4_isText rfl rfl rfl (by decide +kernel) ⟨(Nat.le_of_ble_eq_true rfl), (Nat.le_of_ble_eq_true rfl)⟩) (mw_preV hE hP (ci := 5) rfl rfl mo_o [.int y]) rfl rfl hl.1 rfl (lv_room (Nat.le_of_ble_eq_true rfl)) dX4_compare_15 ⟨(Nat.le_of_ble_eq_true rfl), (Nat.le_of_ble_eq_true rfl)⟩) (fun r_4 M1 H locs hw hP hS => ?_)
    obtain ⟨rfl, hw⟩ := hw
    rcases hw with ⟨hq_5, rfl⟩ | ⟨hq_5, rfl⟩
    · obtain ⟨ta, hta, rfl⟩ := vp_in_of hq_5 (by omega)
      refine lv_if_eq (tgt := 29) hx hb dX4_compare_18 (by decide) (fun c9 => absurd c9 (by decide)) (fun _ => ?_)
      refine lv_aload_n hx hb dX4_compare_21 rfl (lv_at hl 0 rfl) ?_
      refine lv_iload_n hx hb dX4_compare_22 rfl (lv_at hl 3 rfl) ?_
      refine mw_calli hP hS hA (va_runV (As := [.int z]) (rest := []) ⟨hx, hb, hml, hE.2.2.2.1, hE.2.2.1⟩ (tX4_isText l D k _ _ ad (va_up v 0 0) g n z hN hV ⟨hb0, hb1, hb2, hb3⟩ rfl) (cwV 1 hE.2.2.1 gX4_compare_X4_isText rfl rfl rfl (by decide +kernel) ⟨(Nat.le_of_ble_eq_true rfl), (Nat.le_of_ble_eq_true rfl)⟩) (mw_preV hE hP (ci := 5) rfl rfl mo_o [.int z]) rfl rfl hl.1 rfl (lv_room (Nat.le_of_ble_eq_true rfl)) dX4_compare_23 ⟨(Nat.le_of_ble_eq_true rfl), (Nat.le_of_ble_eq_true rfl)⟩) (fun r_7 M1 H locs hw hP hS => ?_)
      obtain ⟨rfl, hw⟩ := hw
      rcases hw with ⟨hq_8, rfl⟩ | ⟨hq_8, rfl⟩
      · obtain ⟨tb, htb, rfl⟩ := vp_in_of hq_8 (by omega)
        refine lv_if_ne (tgt := 32) hx hb dX4_compare_26 (by decide) (fun _ => ?_) (fun c9 => absurd c9 (by decide))
        refine lv_iconst (v := 0) hx hb dX4_compare_32 (by decide) ?_
        refine lv_istore (lv' := [(4, .int 0), (0, .ref (ad 0)), (1, .int (nI oo)), (2, .int (nI ta)), (3, .int (nI tb))]) hx hb dX4_compare_33 hl (by decide) rfl (fun ls hl => ?_)
        have lp_35 : ∀ (fu : Nat) (kk : Nat), (kk ≤ 40) → (cmpf (fun k => rko g oo (rdn L T ta k)) (fun k => rko g oo (rdn L T tb k)) 0 40 = cmpf (fun k => rko g oo (rdn L T ta k)) (fun k => rko g oo (rdn L T tb k)) kk (40 - kk)) → 40 - kk < fu → ∀ (H : Heap) (locs : List Loc), mw_Q (mw_A M s.heap.size) D vwCl (mo_M (k 0) ad (va_up v 0 0) g) H → va_S (mw_A M s.heap.size) s.heap H locs → ∀ ls : Array Slot, lv_has ls 7 [(0, .ref (ad 0)), (1, .int (nI oo)), (2, .int (nI ta)), (3, .int (nI tb)), (4, .int (nI kk))] → W p l e ({ frames := 1, cells := 0, slots := 0, locals := 25 } : Room) s m ([.ref (ad 0), .int (nI oo), .int (nI ta), .int (nI tb)] : List Value).toArray below meth c H locs 0 0 Q (F0 m 35 ls []) := by
          intro fu
          induction fu with
          | zero => intro kk hkk hv hn; exact absurd hn (Nat.not_lt_zero _)
          | succ fu ih_35 =>
            intro kk hkk hv hn H locs hP hS ls hl
            refine lv_iload hx hb dX4_compare_35 (lv_at hl 4 rfl) ?_
            refine lv_bipush (v := nI 40) hx hb dX4_compare_37 (by decide) ?_
            refine lv_icmp_ge (tgt := 96) hx hb dX4_compare_39 (by decide) (fun c_39 => ?_) (fun c_39 => ?_)
            · have k_39 : 40 ≤ kk := nn_le (a := 40) (b := kk) c_39 (by omega) (by omega)
              refine lv_iconst (v := 0) hx hb dX4_compare_96 (by decide) ?_
              rw [hQ]
              exact mw_iret (v := 0) hE hr hlocks hP hS dX4_compare_97 (⟨_, rfl, hV, Or.inr ⟨oo, ta, tb, hoo, hta, htb, rfl, rfl, rfl, by rw [hv, cmpf_end (by omega)]⟩⟩)
            · have k_39 : kk < 40 := nn_nle (a := 40) (b := kk) c_39 (by omega) (by omega)
              refine lv_aload_n hx hb dX4_compare_42 rfl (lv_at hl 0 rfl) ?_
              refine lv_iload_n hx hb dX4_compare_43 rfl (lv_at hl 1 rfl) ?_
              refine lv_aload_n hx hb dX4_compare_44 rfl (lv_at hl 0 rfl) ?_
              refine lv_iload_n hx hb dX4_compare_45 rfl (lv_at hl 2 rfl) ?_
              refine lv_iload hx hb dX4_compare_46 (lv_at hl 4 rfl) ?_
              refine mw_calli hP hS hA (va_runV (As := [.int (nI ta), .int (nI kk)]) (rest := [.int (nI oo), .ref (ad 0)]) ⟨hx, hb, hml, hE.2.2.2.1, hE.2.2.1⟩ (tX4_readAt l D k _ _ ad (va_up v 0 0) g n L T ta kk hN hV ⟨hb0, hb1, hb2, hb3⟩ rfl hX hta (by omega)) (cwV 2 hE.2.2.1 gX4_compare_X4_readAt rfl rfl rfl (by decide +kernel) ⟨(Nat.le_of_ble_eq_true rfl), (Nat.le_of_ble_eq_true rfl)⟩) (mw_preV hE hP (ci := 5) rfl rfl mo_o [.int (nI ta), .int (nI kk)]) rfl rfl hl.1 rfl (lv_room (Nat.le_of_ble_eq_true rfl)) dX4_compare_48 ⟨(Nat.le_of_ble_eq_true rfl), (Nat.le_of_ble_eq_true rfl)⟩) (fun r_11 M1 H locs hw hP hS => ?_)
              obtain ⟨rfl, rfl⟩ := hw
              refine mw_calli hP hS hA (va_runV (As := [.int (nI oo), .int (nI (rdn L T ta kk))]) (rest := []) ⟨hx, hb, hml, hE.2.2.2.1, hE.2.2.1⟩ (tX4_rankOf l D k _ _ ad (va_up v 0 0) g n oo (rdn L T ta kk) hN hV ⟨hb0, hb1, hb2, hb3⟩ rfl (by omega) (rdn_lt hX hta _)) (cwV 2 hE.2.2.1 gX4_compare_X4_rankOf rfl rfl rfl (by decide +kernel) ⟨(Nat.le_of_ble_eq_true rfl), (Nat.le_of_ble_eq_true rfl)⟩) (mw_preV hE hP (ci := 5) rfl rfl mo_o [.int (nI oo), .int (nI (rdn L T ta kk))]) rfl rfl hl.1 rfl (lv_room (Nat.le_of_ble_eq_true rfl)) dX4_compare_51 ⟨(Nat.le_of_ble_eq_true rfl), (Nat.le_of_ble_eq_true rfl)⟩) (fun r_12 M1 H locs hw1 hP hS => ?_)
              obtain ⟨rfl, er_12⟩ := hw1
              refine lv_istore (lv' := [(5, .int r_12), (0, .ref (ad 0)), (1, .int (nI oo)), (2, .int (nI ta)), (3, .int (nI tb)), (4, .int (nI kk))]) hx hb dX4_compare_54 hl (by decide) rfl (fun ls hl => ?_)
              refine lv_aload_n hx hb dX4_compare_56 rfl (lv_at hl 1 rfl) ?_
              refine lv_iload_n hx hb dX4_compare_57 rfl (lv_at hl 2 rfl) ?_
              refine lv_aload_n hx hb dX4_compare_58 rfl (lv_at hl 1 rfl) ?_
              refine lv_iload_n hx hb dX4_compare_59 rfl (lv_at hl 4 rfl) ?_
              refine lv_iload hx hb dX4_compare_60 (lv_at hl 5 rfl) ?_
              refine mw_calli hP hS hA (va_runV (As := [.int (nI tb), .int (nI kk)]) (rest := [.int (nI oo), .ref (ad 0)]) ⟨hx, hb, hml, hE.2.2.2.1, hE.2.2.1⟩ (tX4_readAt l D k _ _ ad (va_up v 0 0) g n L T tb kk hN hV ⟨hb0, hb1, hb2, hb3⟩ rfl hX htb (by omega)) (cwV 2 hE.2.2.1 gX4_compare_X4_readAt rfl rfl rfl (by decide +kernel) ⟨(Nat.le_of_ble_eq_true rfl), (Nat.le_of_ble_eq_true rfl)⟩) (mw_preV hE hP (ci := 5) rfl rfl mo_o [.int (nI tb), .int (nI kk)]) rfl rfl hl.1 rfl (lv_room (Nat.le_of_ble_eq_true rfl)) dX4_compare_62 ⟨(Nat.le_of_ble_eq_true rfl), (Nat.le_of_ble_eq_true rfl)⟩) (fun r_13 M1 H locs hw hP hS => ?_)
              obtain ⟨rfl, rfl⟩ := hw
              refine mw_calli hP hS hA (va_runV (As := [.int (nI oo), .int (nI (rdn L T tb kk))]) (rest := []) ⟨hx, hb, hml, hE.2.2.2.1, hE.2.2.1⟩ (tX4_rankOf l D k _ _ ad (va_up v 0 0) g n oo (rdn L T tb kk) hN hV ⟨hb0, hb1, hb2, hb3⟩ rfl (by omega) (rdn_lt hX htb _)) (cwV 2 hE.2.2.1 gX4_compare_X4_rankOf rfl rfl rfl (by decide +kernel) ⟨(Nat.le_of_ble_eq_true rfl), (Nat.le_of_ble_eq_true rfl)⟩) (mw_preV hE hP (ci := 5) rfl rfl mo_o [.int (nI oo), .int (nI (rdn L T tb kk))]) rfl rfl hl.1 rfl (lv_room (Nat.le_of_ble_eq_true rfl)) dX4_compare_65 ⟨(Nat.le_of_ble_eq_true rfl), (Nat.le_of_ble_eq_true rfl)⟩) (fun r_14 M1 H locs hw1 hP hS => ?_)
              obtain ⟨rfl, er_14⟩ := hw1
              refine lv_istore (lv' := [(6, .int r_14), (5, .int r_12), (0, .ref (ad 0)), (1, .int (nI oo)), (2, .int (nI ta)), (3, .int (nI tb)), (4, .int (nI kk))]) hx hb dX4_compare_68 hl (by decide) rfl (fun ls hl => ?_)
              refine lv_iload hx hb dX4_compare_70 (lv_at hl 1 rfl) ?_
              refine lv_iload hx hb dX4_compare_72 (lv_at hl 0 rfl) ?_
              refine lv_icmp_eq (tgt := 90) hx hb dX4_compare_74 (by decide) (fun c_74 => ?_) (fun c_74 => ?_)
              · refine lv_iinc (v := nI (kk + 1)) (lv' := [(4, .int (nI (kk + 1))), (6, .int r_14), (5, .int r_12), (0, .ref (ad 0)), (1, .int (nI oo)), (2, .int (nI ta)), (3, .int (nI tb))]) hx hb dX4_compare_90 hl (k := 6) rfl (nI_1 kk) (by decide) rfl (fun ls hl => ?_)
                refine lv_goto (tgt := 35) hx hb dX4_compare_93 (by decide) ?_
                exact ih_35 (kk + 1) (by omega) (by rw [hv, cmpf_step k_39, if_pos (show (fun k => rko g oo (rdn L T ta k)) kk = (fun k => rko g oo (rdn L T tb k)) kk by show rko g oo (rdn L T ta kk) = rko g oo (rdn L T tb kk); rw [← er_12, ← er_14]; exact c_74)]) (by omega) H locs hP hS ls (lv_sub hl [3, 4, 5, 6, 0] rfl)
              · refine lv_iload hx hb dX4_compare_77 (lv_at hl 1 rfl) ?_
                refine lv_iload hx hb dX4_compare_79 (lv_at hl 0 rfl) ?_
                refine lv_icmp_ge (tgt := 88) hx hb dX4_compare_81 (by decide) (fun c_81 => ?_) (fun c_81 => ?_)
                · refine lv_iconst (v := 1) hx hb dX4_compare_88 (by decide) ?_
                  rw [hQ]
                  exact mw_iret (v := 1) hE hr hlocks hP hS dX4_compare_89 (⟨_, rfl, hV, Or.inr ⟨oo, ta, tb, hoo, hta, htb, rfl, rfl, rfl, by rw [hv, cmpf_step k_39, if_neg (show ¬ (fun k => rko g oo (rdn L T ta k)) kk = (fun k => rko g oo (rdn L T tb k)) kk by show ¬ rko g oo (rdn L T ta kk) = rko g oo (rdn L T tb kk); rw [← er_12, ← er_14]; exact c_74), if_neg (show ¬ (fun k => rko g oo (rdn L T ta k)) kk < (fun k => rko g oo (rdn L T tb k)) kk by show ¬ rko g oo (rdn L T ta kk) < rko g oo (rdn L T tb kk); rw [← er_12, ← er_14]; exact Int32.not_lt.mpr c_81)]⟩⟩)
                · refine lv_iconst (v := (-1)) hx hb dX4_compare_84 (by decide) ?_
                  refine lv_goto (tgt := 89) hx hb dX4_compare_85 (by decide) ?_
                  rw [hQ]
                  exact mw_iret (v := (-1)) hE hr hlocks hP hS dX4_compare_89 (⟨_, rfl, hV, Or.inr ⟨oo, ta, tb, hoo, hta, htb, rfl, rfl, rfl, by rw [hv, cmpf_step k_39, if_neg (show ¬ (fun k => rko g oo (rdn L T ta k)) kk = (fun k => rko g oo (rdn L T tb k)) kk by show ¬ rko g oo (rdn L T ta kk) = rko g oo (rdn L T tb kk); rw [← er_12, ← er_14]; exact c_74), if_pos (show (fun k => rko g oo (rdn L T ta k)) kk < (fun k => rko g oo (rdn L T tb k)) kk by show rko g oo (rdn L T ta kk) < rko g oo (rdn L T tb kk); rw [← er_12, ← er_14]; exact Int32.not_le.mp c_81)]⟩⟩)
        exact lp_35 (50) 0 (by omega) (rfl) (by omega) _ _ hP hS ls (lv_sub hl [1, 2, 3, 4, 0] rfl)
      · refine lv_if_ne (tgt := 32) hx hb dX4_compare_26 (by decide) (fun c9 => absurd (by decide) c9) (fun _ => ?_)
        refine lv_bipush (v := (-2)) hx hb dX4_compare_29 (by decide) ?_
        rw [hQ]
        exact mw_iret (v := (-2)) hE hr hlocks hP hS dX4_compare_31 (⟨_, rfl, hV, Or.inl ⟨fun h => hq_8 h.2.2, rfl⟩⟩)
    · refine lv_if_eq (tgt := 29) hx hb dX4_compare_18 (by decide) (fun _ => ?_) (fun c9 => absurd (by decide) c9)
      refine lv_bipush (v := (-2)) hx hb dX4_compare_29 (by decide) ?_
      rw [hQ]
      exact mw_iret (v := (-2)) hE hr hlocks hP hS dX4_compare_31 (⟨_, rfl, hV, Or.inl ⟨fun h => hq_5 h.2.1, rfl⟩⟩)
  · refine lv_if_eq (tgt := 29) hx hb dX4_compare_10 (by decide) (fun _ => ?_) (fun c9 => absurd (by decide) c9)
    refine lv_bipush (v := (-2)) hx hb dX4_compare_29 (by decide) ?_
    rw [hQ]
    exact mw_iret (v := (-2)) hE hr hlocks hP hS dX4_compare_31 (⟨_, rfl, hV, Or.inl ⟨fun h => hq_2 h.1, rfl⟩⟩)
