theorem lrow_0 {n : Nat → Nat} {g : Nat → Nat → Int32} {x y r c : Int32} (hB : mo_B n) {a j : Nat} (ha : a < n 0) (hj : j < 256) (ex : x = nI a) (ey : y = nI j) (h : R_row n g x y r c) : r = g 1 (256 * a + j) ∧ c = 0 := by
  have hB0 := hB.1
  rcases h with ⟨b, -, -⟩ | ⟨p, q, hp, hq, fx, fy, e1, e2⟩
  · exact absurd ⟨xin ex ha (by omega), xin ey hj (by omega)⟩ b
  · obtain rfl := xr ex fx ha hp (by omega)
    obtain rfl := xr ey fy hj hq (by omega)
    exact ⟨e1, e2⟩
theorem lrow_1 {n : Nat → Nat} {g : Nat → Nat → Int32} {x y r c : Int32} (hB : mo_B n) (hno : ¬ (vp_in x (n 0) ∧ vp_in y 256)) (h : R_row n g x y r c) : c = 1 := by
  have hB0 := hB.1
  rcases h with ⟨-, -, e⟩ | ⟨p, q, hp, hq, fx, fy, -, -⟩
  · exact e
  · exact absurd ⟨xin fx hp (by omega), xin fy hq (by omega)⟩ hno
set_option maxHeartbeats 16000000 in
set_option maxRecDepth 100000 in
theorem law_loop_open {p : Program} {l : Launch} {e : Env} {s : State} {m : MethodId} {below : List Frame} {meth : Method} {c : Code} {D : va_G} {k : Nat → ClassId} {b0 L0 : Nat} {xs : Nat → Int32} (hL : L0 ≤ 2048) (C0 : lw_At p s m meth c b0 L0 xs) (hK : va_K D vwCl (TY k) s) (hZN : va_Nw wNest s) (hRow : RowRun l D k) (h ad : Nat → Nat) (o9 : Nat) (hN : mo_N ad) :
    ∀ (fu i : Nat) (b : Nat → Nat → Nat) (T : Nat → Nat × Nat) (n : Nat → Nat) (c9 : Nat → Nat → Nat → Int32) (g : Nat → Nat → Int32) (L : Nat → Nat) (X : Nat → Nat → Nat) (v : Nat → Int32) (Mc : mw) (f9 : Nat → Int64), 4 * i ≤ L0 → 600 ≤ i + fu → LI k h i b T n c9 g L X v Mc → ∀ (H : Heap) (locs : List Loc), mw_Q (fun q : Nat => s.heap.size ≤ q) D vwCl Mc H → mw_Q (fun q : Nat => s.heap.size ≤ q) D vwCl (mo_M (k 0) ad v g) H → mw_Q (fun q : Nat => s.heap.size ≤ q) D vwCl (lw_o k o9 f9) H → dj Mc (mo_M (k 0) ad v g) → dj Mc (lw_o k o9 f9) → dj (mo_M (k 0) ad v g) (lw_o k o9 f9) → va_S (fun q : Nat => s.heap.size ≤ q) s.heap H locs → ∀ ls : Array Slot, lv_has ls 7 [(0, .ref b0), (1, .ref (h 0)), (2, .ref (ad 0)), (3, .ref o9), (4, .int (nI (4 * i)))] → W p l e room_1 s m #[Value.ref b0] below meth c H locs (15 + 8 * i) (8307 + 800 * i) (lw_Z below #[Value.ref b0] s) (F0 m 23 ls []) := by
  have hts := C0.2.2.2.2.2.1
  have hE : mw_E p c code s #[Value.ref b0] wsL_law RL m D vwCl (TY k) := ⟨C0.1, C0.2.1, fun w hw => hts w (wsL_law_in w hw), C0.2.2.2.2.1, hK⟩
  have hx := hE.1
  have hb := hE.2.1
  have hr := C0.2.2.1
  have hml := C0.2.2.2.1
  obtain ⟨hX9, hbl, hlocks, hgv⟩ := C0.2.2.2.2.2.2
  have hA : ∀ q : Nat, s.heap.size ≤ q → (fun q : Nat => s.heap.size ≤ q) q := fun _ h => h
  have hbA : ¬ (fun q : Nat => s.heap.size ≤ q) b0 := Nat.not_le.mpr hbl
  intro fu
  induction fu with
  | zero =>
    intro i b T n c9 g L X v Mc f9 h1 h2
    exact absurd h2 (by omega)
  | succ fu ih =>
    intro i b T n c9 g L X v Mc f9 hi4 hfu hLI H locs hPc hPm hPo dcm dco dmo hS ls hl
    obtain ⟨hR, hT, hn9, hs, hV, hNx, h99⟩ := id hLI
    refine lv_iload hx hb dL_law_23 (lv_at hl 4 rfl) ?_
    refine lv_aload_n hx hb dL_law_25 rfl (lv_at hl 0 rfl) ?_
    refine va_slen hx hb hX9 hbl hbA hS dL_law_26 ?_
    refine rw_i (v := nI L0) rfl ?_
    refine lv_iconst (v := nI 4) hx hb dL_law_27 (by decide) ?_
    refine lv_isub hx hb dL_law_28 ?_
    refine rw_i (v := nI L0 - nI 4) rfl ?_
    refine lv_icmp_gt (tgt := 827) hx hb dL_law_29 (by decide) (fun c_29 => ?_) (fun c_29 => ?_)
    · refine lv_iconst (v := 1) hx hb dL_law_827 (by decide) ?_
      refine va_forget (fun q hq => hS.2.2 q hq) ?_
      refine W.widen (k := room_1.cells) (n := room_1.slots) (lw_rc (by omega)) (lw_rs (by omega)) ?_
      exact lw_ret hx hb hr hlocks dL_law_828
    · have h29 := len_4 hL (by omega) c_29
      refine lv_aload_n hx hb dL_law_32 rfl (lv_at hl 0 rfl) ?_
      refine lv_iload hx hb dL_law_33 (lv_at hl 4 rfl) ?_
      refine lw_sld hx hb hX9 hbl hbA hS (by omega) dL_law_35 (by omega) ?_
      refine lv_bipush (v := nI 31) hx hb dL_law_36 (by decide) ?_
      refine lv_iand hx hb dL_law_38 ?_
      refine lv_topi (fun w ew => ?_)
      rcases sw_cases w 18 (by decide) with hw9 | ⟨jw, hjw, ejw⟩
      · refine lv_tableOut (tgt := 821) hx hb dL_law_39 (sw_out (by decide) hw9) (by decide) ?_
        refine lv_iinc (v := nI (4 * (i + 1))) (lv' := [(4, .int (nI (4 * (i + 1)))), (0, .ref b0), (1, .ref (h 0)), (2, .ref (ad 0)), (3, .ref o9)]) hx hb dL_law_821 hl (k := 4) rfl (by rw [show (4 * (i + 1)) = 4 * i + 4 by omega]; exact nI_add _ _) (by decide) rfl (fun ls hl => ?_)
        refine lv_goto (tgt := 23) hx hb dL_law_824 (by decide) ?_
        refine rw_cs (k := 15 + 8 * (i + 1)) (n := 8307 + 800 * (i + 1)) (by omega) (by omega) ?_
        exact ih (i + 1) b T n c9 g L X v Mc f9 (by omega) (by omega) ⟨hR, hT, hn9, hs, hV, hNx.up, h99⟩ H locs hPc hPm hPo dcm dco dmo hS ls (lv_sub hl [1, 2, 3, 4, 0] rfl)
      · rcases (show jw = 0 ∨ jw = 1 ∨ jw = 2 ∨ jw = 3 ∨ jw = 4 ∨ jw = 5 ∨ jw = 6 ∨ jw = 7 ∨ jw = 8 ∨ jw = 9 ∨ jw = 10 ∨ jw = 11 ∨ jw = 12 ∨ jw = 13 ∨ jw = 14 ∨ jw = 15 ∨ jw = 16 ∨ jw = 17 by omega) with rfl | rfl | rfl | rfl | rfl | rfl | rfl | rfl | rfl | rfl | rfl | rfl | rfl | rfl | rfl | rfl | rfl | rfl
        · subst ejw
          refine lv_tableIn (off := 85) (tgt := 124) hx hb dL_law_39 (by decide +kernel) (by decide +kernel) (by decide +kernel) (by decide) ?_
          refine lv_aload_n hx hb dL_law_124 rfl (lv_at hl 1 rfl) ?_
          refine lv_aload_n hx hb dL_law_125 rfl (lv_at hl 0 rfl) ?_
          refine lv_iload hx hb dL_law_126 (lv_at hl 4 rfl) ?_
          refine lv_iconst (v := 1) hx hb dL_law_128 (by decide) ?_
          refine lv_iadd hx hb dL_law_129 ?_
          refine rw_i (v := nI ((4 * i) + 1)) (nI_1 _) ?_
          refine lw_sld hx hb hX9 hbl hbA hS (by omega) dL_law_130 (by omega) ?_
          refine lw_calli hPc hPm hPo dcm dco hS hA (va_runV (As := [.int (xs ((4 * i) + 1))]) (rest := []) ⟨hx, hb, hml, hE.2.2.2.1, hE.2.2.1⟩ (tX3_page l D k _ _ h b T n c9 g L X (xs ((4 * i) + 1)) hR hT hn9 hs) (cwV 1 hE.2.2.1 gL_law_X3_page rfl rfl rfl (by decide +kernel) ⟨(Nat.le_of_ble_eq_true rfl), (Nat.le_of_ble_eq_true rfl)⟩) (mw_preV hE hPc (ci := 4) rfl rfl hR.1.1 [.int (xs ((4 * i) + 1))]) rfl rfl hl.1 rfl (lv_room (Nat.le_of_ble_eq_true rfl)) dL_law_131 ⟨lw_rc (by show 15 + 8 * i + 2 ≤ 600000; omega), lw_rs (by show 8307 + 800 * i + 258 ≤ 7000000; omega)⟩) (fun r1 M1 H locs hw hPc hPm hPo dcm dco hS => ?_)
          obtain ⟨b1, T1, n1, c1, g1, hR1, hT1, hs1, hr1⟩ := hw
          refine lv_aload_n hx hb dL_law_134 rfl (lv_at hl 2 rfl) ?_
          refine lv_aload_n hx hb dL_law_135 rfl (lv_at hl 0 rfl) ?_
          refine lv_iload hx hb dL_law_136 (lv_at hl 4 rfl) ?_
          refine lv_iconst (v := 1) hx hb dL_law_138 (by decide) ?_
          refine lv_iadd hx hb dL_law_139 ?_
          refine rw_i (v := nI ((4 * i) + 1)) (nI_1 _) ?_
          refine lw_sld hx hb hX9 hbl hbA hS (by omega) dL_law_140 (by omega) ?_
          refine lw_calli hPm hPc hPo dcm.symm dmo hS hA (va_runV (As := [.int (xs ((4 * i) + 1))]) (rest := [.int r1]) ⟨hx, hb, hml, hE.2.2.2.1, hE.2.2.1⟩ (tX4_page l D k _ _ ad v g n (xs ((4 * i) + 1)) hN hV hn9 rfl) (cwV 1 hE.2.2.1 gL_law_X4_page rfl rfl rfl (by decide +kernel) ⟨(Nat.le_of_ble_eq_true rfl), (Nat.le_of_ble_eq_true rfl)⟩) (mw_preV hE hPm (ci := 5) rfl rfl mo_o [.int (xs ((4 * i) + 1))]) rfl rfl hl.1 rfl (lv_room (Nat.le_of_ble_eq_true rfl)) dL_law_141 ⟨lw_rc (by show 15 + 8 * i + 2 + 0 ≤ 600000; omega), lw_rs (by show 8307 + 800 * i + 258 + 0 ≤ 7000000; omega)⟩) (fun r2 M2 H locs hw hPm hPc hPo dmc dmo hS => ?_)
          obtain ⟨v2, g2, n2, em, hV2, hr2⟩ := hw
          rw [em] at hPm dmc dmo
          have dcm := dmc.symm
          obtain ⟨er, rn, rg⟩ := det_page hr1 hr2
          rw [← rg] at hPm dcm dmo
          rw [← rn] at hV2
          refine lv_icmp_eq (tgt := 821) hx hb dL_law_144 (by decide) (fun c_144 => ?_) (fun c_144 => absurd er c_144)
          refine lv_iinc (v := nI (4 * (i + 1))) (lv' := [(4, .int (nI (4 * (i + 1)))), (0, .ref b0), (1, .ref (h 0)), (2, .ref (ad 0)), (3, .ref o9)]) hx hb dL_law_821 hl (k := 4) rfl (by rw [show (4 * (i + 1)) = 4 * i + 4 by omega]; exact nI_add _ _) (by decide) rfl (fun ls hl => ?_)
          refine lv_goto (tgt := 23) hx hb dL_law_824 (by decide) ?_
          refine rw_cs (k := 15 + 8 * (i + 1)) (n := 8307 + 800 * (i + 1)) (by omega) (by omega) ?_
          exact ih (i + 1) b1 T1 n1 c1 g1 L X v2 M1 f9 (by omega) (by omega) ⟨hR1, hT1, li_page_B hn9 hr1, hs1, hV2, li_page_N hr1 hNx, li_page_9 hr1 h99⟩ H locs hPc hPm hPo dcm dco dmo hS ls (lv_sub hl [1, 2, 3, 4, 0] rfl)
        · subst ejw
          refine lv_tableIn (off := 110) (tgt := 149) hx hb dL_law_39 (by decide +kernel) (by decide +kernel) (by decide +kernel) (by decide) ?_
          refine lv_aload_n hx hb dL_law_149 rfl (lv_at hl 1 rfl) ?_
          refine lv_aload_n hx hb dL_law_150 rfl (lv_at hl 0 rfl) ?_
          refine lv_iload hx hb dL_law_151 (lv_at hl 4 rfl) ?_
          refine lv_iconst (v := 1) hx hb dL_law_153 (by decide) ?_
          refine lv_iadd hx hb dL_law_154 ?_
          refine rw_i (v := nI ((4 * i) + 1)) (nI_1 _) ?_
          refine lw_sld hx hb hX9 hbl hbA hS (by omega) dL_law_155 (by omega) ?_
          refine lv_aload_n hx hb dL_law_156 rfl (lv_at hl 0 rfl) ?_
          refine lv_iload hx hb dL_law_157 (lv_at hl 4 rfl) ?_
          refine lv_iconst (v := nI 2) hx hb dL_law_159 (by decide) ?_
          refine lv_iadd hx hb dL_law_160 ?_
          refine rw_i (v := nI ((4 * i) + 2)) (nI_add _ _) ?_
          refine lw_sld hx hb hX9 hbl hbA hS (by omega) dL_law_161 (by omega) ?_
          refine lv_aload_n hx hb dL_law_162 rfl (lv_at hl 0 rfl) ?_
          refine lv_iload hx hb dL_law_163 (lv_at hl 4 rfl) ?_
          refine lv_iconst (v := nI 3) hx hb dL_law_165 (by decide) ?_
          refine lv_iadd hx hb dL_law_166 ?_
          refine rw_i (v := nI ((4 * i) + 3)) (nI_add _ _) ?_
          refine lw_sld hx hb hX9 hbl hbA hS (by omega) dL_law_167 (by omega) ?_
          refine lw_calli hPc hPm hPo dcm dco hS hA (va_runV (As := [.int (xs ((4 * i) + 1)), .int (xs ((4 * i) + 2)), .int (xs ((4 * i) + 3))]) (rest := []) ⟨hx, hb, hml, hE.2.2.2.1, hE.2.2.1⟩ (tX3_set l D k _ _ h b T n c9 g L X (xs ((4 * i) + 1)) (xs ((4 * i) + 2)) (xs ((4 * i) + 3)) hR hT hn9 hs) (cwV 3 hE.2.2.1 gL_law_X3_set rfl rfl rfl (by decide +kernel) ⟨(Nat.le_of_ble_eq_true rfl), (Nat.le_of_ble_eq_true rfl)⟩) (mw_preV hE hPc (ci := 4) rfl rfl hR.1.1 [.int (xs ((4 * i) + 1)), .int (xs ((4 * i) + 2)), .int (xs ((4 * i) + 3))]) rfl rfl hl.1 rfl (lv_room (Nat.le_of_ble_eq_true rfl)) dL_law_168 ⟨lw_rc (by show 15 + 8 * i + 0 ≤ 600000; omega), lw_rs (by show 8307 + 800 * i + 0 ≤ 7000000; omega)⟩) (fun r1 M1 H locs hw hPc hPm hPo dcm dco hS => ?_)
          obtain ⟨c1, g1, hR1, hs1, hr1⟩ := hw
          refine lv_aload_n hx hb dL_law_171 rfl (lv_at hl 2 rfl) ?_
          refine lv_aload_n hx hb dL_law_172 rfl (lv_at hl 0 rfl) ?_
          refine lv_iload hx hb dL_law_173 (lv_at hl 4 rfl) ?_
          refine lv_iconst (v := 1) hx hb dL_law_175 (by decide) ?_
          refine lv_iadd hx hb dL_law_176 ?_
          refine rw_i (v := nI ((4 * i) + 1)) (nI_1 _) ?_
          refine lw_sld hx hb hX9 hbl hbA hS (by omega) dL_law_177 (by omega) ?_
          refine lv_aload_n hx hb dL_law_178 rfl (lv_at hl 0 rfl) ?_
          refine lv_iload hx hb dL_law_179 (lv_at hl 4 rfl) ?_
          refine lv_iconst (v := nI 2) hx hb dL_law_181 (by decide) ?_
          refine lv_iadd hx hb dL_law_182 ?_
          refine rw_i (v := nI ((4 * i) + 2)) (nI_add _ _) ?_
          refine lw_sld hx hb hX9 hbl hbA hS (by omega) dL_law_183 (by omega) ?_
          refine lv_aload_n hx hb dL_law_184 rfl (lv_at hl 0 rfl) ?_
          refine lv_iload hx hb dL_law_185 (lv_at hl 4 rfl) ?_
          refine lv_iconst (v := nI 3) hx hb dL_law_187 (by decide) ?_
          refine lv_iadd hx hb dL_law_188 ?_
          refine rw_i (v := nI ((4 * i) + 3)) (nI_add _ _) ?_
          refine lw_sld hx hb hX9 hbl hbA hS (by omega) dL_law_189 (by omega) ?_
          refine lw_calli hPm hPc hPo dcm.symm dmo hS hA (va_runV (As := [.int (xs ((4 * i) + 1)), .int (xs ((4 * i) + 2)), .int (xs ((4 * i) + 3))]) (rest := [.int r1]) ⟨hx, hb, hml, hE.2.2.2.1, hE.2.2.1⟩ (tX4_set l D k _ _ ad v g n (xs ((4 * i) + 1)) (xs ((4 * i) + 2)) (xs ((4 * i) + 3)) hN hV hn9 rfl) (cwV 3 hE.2.2.1 gL_law_X4_set rfl rfl rfl (by decide +kernel) ⟨(Nat.le_of_ble_eq_true rfl), (Nat.le_of_ble_eq_true rfl)⟩) (mw_preV hE hPm (ci := 5) rfl rfl mo_o [.int (xs ((4 * i) + 1)), .int (xs ((4 * i) + 2)), .int (xs ((4 * i) + 3))]) rfl rfl hl.1 rfl (lv_room (Nat.le_of_ble_eq_true rfl)) dL_law_190 ⟨lw_rc (by show 15 + 8 * i + 0 ≤ 600000; omega), lw_rs (by show 8307 + 800 * i + 0 ≤ 7000000; omega)⟩) (fun r2 M2 H locs hw hPm hPc hPo dmc dmo hS => ?_)
          obtain ⟨v2, g2, em, hV2, hr2⟩ := hw
          rw [em] at hPm dmc dmo
          have dcm := dmc.symm
          obtain ⟨er, rg⟩ := det_set hn9 hr1 hr2
          rw [← rg] at hPm dcm dmo
          refine lv_icmp_eq (tgt := 821) hx hb dL_law_193 (by decide) (fun c_193 => ?_) (fun c_193 => absurd er c_193)
          refine lv_iinc (v := nI (4 * (i + 1))) (lv' := [(4, .int (nI (4 * (i + 1)))), (0, .ref b0), (1, .ref (h 0)), (2, .ref (ad 0)), (3, .ref o9)]) hx hb dL_law_821 hl (k := 4) rfl (by rw [show (4 * (i + 1)) = 4 * i + 4 by omega]; exact nI_add _ _) (by decide) rfl (fun ls hl => ?_)
          refine lv_goto (tgt := 23) hx hb dL_law_824 (by decide) ?_
          refine rw_cs (k := 15 + 8 * (i + 1)) (n := 8307 + 800 * (i + 1)) (by omega) (by omega) ?_
          exact ih (i + 1) b T n c1 g1 L X v2 M1 f9 (by omega) (by omega) ⟨hR1, hT, hn9, hs1, hV2, li_set_N hr1 hNx, li_set_9 hr1 h99⟩ H locs hPc hPm hPo dcm dco dmo hS ls (lv_sub hl [1, 2, 3, 4, 0] rfl)
        · subst ejw
          refine lv_tableIn (off := 159) (tgt := 198) hx hb dL_law_39 (by decide +kernel) (by decide +kernel) (by decide +kernel) (by decide) ?_
          refine lv_aload_n hx hb dL_law_198 rfl (lv_at hl 1 rfl) ?_
          refine lv_aload_n hx hb dL_law_199 rfl (lv_at hl 0 rfl) ?_
          refine lv_iload hx hb dL_law_200 (lv_at hl 4 rfl) ?_
          refine lv_iconst (v := 1) hx hb dL_law_202 (by decide) ?_
          refine lv_iadd hx hb dL_law_203 ?_
          refine rw_i (v := nI ((4 * i) + 1)) (nI_1 _) ?_
          refine lw_sld hx hb hX9 hbl hbA hS (by omega) dL_law_204 (by omega) ?_
          refine lv_aload_n hx hb dL_law_205 rfl (lv_at hl 0 rfl) ?_
          refine lv_iload hx hb dL_law_206 (lv_at hl 4 rfl) ?_
          refine lv_iconst (v := nI 2) hx hb dL_law_208 (by decide) ?_
          refine lv_iadd hx hb dL_law_209 ?_
          refine rw_i (v := nI ((4 * i) + 2)) (nI_add _ _) ?_
          refine lw_sld hx hb hX9 hbl hbA hS (by omega) dL_law_210 (by omega) ?_
          refine lv_aload_n hx hb dL_law_211 rfl (lv_at hl 3 rfl) ?_
          have hPu := lw_up_Q hPc hPo lw_o_s
          have du := lw_up_dj (e := .inl (k 5, 1, .inr (.inl f9))) dcm dmo.symm lw_o_s
          have hoc : ∀ q e, Mc q = some e → q ≠ o9 := fun q e hq hh => dco q e (.inl (k 5, 1, .inr (.inl f9))) hq (by rw [hh]; exact lw_o_s)
          have hRu : cp_R k h b n c9 (mw_up Mc o9 (.inl (k 5, 1, .inr (.inl f9)))) := cp_mono hR (fun q e hq => by rw [mw_up_n (hoc q e hq)]; exact hq)
          have hPe : mw_Q (fun q : Nat => s.heap.size ≤ q) D vwCl (fun _ => none) H := ⟨fun _ _ h => (by cases h), fun _ _ h => (by cases h)⟩
          refine lw_calli hPu hPm hPe du (fun _ _ _ _ h => (by cases h)) hS hA (hRow p e s m b0 L0 xs below meth c H locs _ _ ls _ _ o9 f9 h b T n c9 g L X (xs ((4 * i) + 1)) (xs ((4 * i) + 2)) C0 hE hl.1 (by omega) (by omega) (fun _ => Iff.rfl) hS hPu (fun q e hq => hPu.2 q e hq) hRu hT hn9 hs mw_up_s) (fun r1 M1 H locs hw hPu hPm hPe du _ hS => ?_)
          rcases hw with ⟨rfl, a9, j9, ha9, hj9, ex9, ey9, eM9⟩ | ⟨rfl, hno, eM9⟩
          · rw [mw_up_up] at eM9
            have hPc : mw_Q (fun q : Nat => s.heap.size ≤ q) D vwCl Mc H := hPu.mono (fun q e hq => by rw [eM9, mw_up_n (hoc q e hq)]; exact hq)
            have hPo : mw_Q (fun q : Nat => s.heap.size ≤ q) D vwCl (lw_o k o9 (vp_updL f9 0 (g 1 (256 * a9 + j9)).toInt64)) H := hPu.mono (fun q e hq => by obtain ⟨h1, h2⟩ := lw_o_sub hq; rw [h1, h2, eM9]; exact mw_up_s)
            have dmo : dj (mo_M (k 0) ad v g) (lw_o k o9 (vp_updL f9 0 (g 1 (256 * a9 + j9)).toInt64)) := dj.symm (du.sub (fun q e hq => by obtain ⟨h1, h2⟩ := lw_o_sub hq; rw [h1, h2, eM9]; exact mw_up_s))
            have dco : dj Mc (lw_o k o9 (vp_updL f9 0 (g 1 (256 * a9 + j9)).toInt64)) := fun q e1 e2 h1 h2 => hoc q e1 h1 (lw_o_sub h2).1
            refine lv_istore (lv' := [(5, .int 0), (0, .ref b0), (1, .ref (h 0)), (2, .ref (ad 0)), (3, .ref o9), (4, .int (nI (4 * i)))]) hx hb dL_law_215 hl (by decide) rfl (fun ls hl => ?_)
            refine lv_aload_n hx hb dL_law_217 rfl (lv_at hl 3 rfl) ?_
            refine lv_aload_n hx hb dL_law_218 rfl (lv_at hl 1 rfl) ?_
            refine lv_iload hx hb dL_law_219 (lv_at hl 5 rfl) ?_
            refine lv_iconst (v := 1) hx hb dL_law_221 (by decide) ?_
            refine lv_iadd hx hb dL_law_222 ?_
            refine rw_i (v := nI ((4 * i) + 1)) (nI_1 _) ?_
            refine lw_sld hx hb hX9 hbl hbA hS (by omega) dL_law_223 (by omega) ?_
            refine lv_aload_n hx hb dL_law_224 rfl (lv_at hl 1 rfl) ?_
            refine lv_iload hx hb dL_law_225 (lv_at hl 5 rfl) ?_
            refine lv_iconst (v := nI 2) hx hb dL_law_227 (by decide) ?_
            refine lv_iadd hx hb dL_law_228 ?_
            refine rw_i (v := nI ((4 * i) + 2)) (nI_add _ _) ?_
            refine lw_sld hx hb hX9 hbl hbA hS (by omega) dL_law_229 (by omega) ?_
            refine lw_calli hPm hPc hPo dcm.symm dmo hS hA (va_runV (As := [.int (xs ((4 * i) + 1)), .int (xs ((4 * i) + 2))]) (rest := []) ⟨hx, hb, hml, hE.2.2.2.1, hE.2.2.1⟩ (tX4_row l D k _ _ ad v g n (xs ((4 * i) + 1)) (xs ((4 * i) + 2)) hN hV hn9 rfl) (cwV 2 hE.2.2.1 gL_law_X4_row rfl rfl rfl (by decide +kernel) ⟨(Nat.le_of_ble_eq_true rfl), (Nat.le_of_ble_eq_true rfl)⟩) (mw_preV hE hPm (ci := 5) rfl rfl mo_o [.int (xs ((4 * i) + 1)), .int (xs ((4 * i) + 2))]) rfl rfl hl.1 rfl (lv_room (Nat.le_of_ble_eq_true rfl)) dL_law_230 ⟨lw_rc (by show 15 + 8 * i + 1 + 0 ≤ 600000; omega), lw_rs (by show 8307 + 800 * i + 6 + 0 ≤ 7000000; omega)⟩) (fun r2 M2 H locs hw hPm hPc hPo dmc dmo hS => ?_)
            obtain ⟨v2, em, hV2, hr2⟩ := hw
            rw [em] at hPm dmc dmo
            have dcm := dmc.symm
            obtain ⟨er2, er⟩ := lrow_0 hn9 ha9 hj9 ex9 ey9 hr2
            refine lv_istore (lv' := [(6, .int r2), (5, .int 0), (0, .ref b0), (1, .ref (h 0)), (2, .ref (ad 0)), (3, .ref o9), (4, .int (nI (4 * i)))]) hx hb dL_law_233 hl (by decide) rfl (fun ls hl => ?_)
            refine lv_aload_n hx hb dL_law_235 rfl (lv_at hl 4 rfl) ?_
            refine lw_calli hPm hPc hPo dcm.symm dmo hS hA (va_runV (As := []) (rest := []) ⟨hx, hb, hml, hE.2.2.2.1, hE.2.2.1⟩ (tX4_thrown l D k _ _ ad v2 g n hN hV2 hn9 rfl) (cwV 0 hE.2.2.1 gL_law_X4_thrown rfl rfl rfl (by decide +kernel) ⟨(Nat.le_of_ble_eq_true rfl), (Nat.le_of_ble_eq_true rfl)⟩) (mw_preV hE hPm (ci := 5) rfl rfl mo_o []) rfl rfl hl.1 rfl (lv_room (Nat.le_of_ble_eq_true rfl)) dL_law_236 ⟨lw_rc (by show 15 + 8 * i + 1 + 0 ≤ 600000; omega), lw_rs (by show 8307 + 800 * i + 6 + 0 ≤ 7000000; omega)⟩) (fun r3 M3 H locs hw hPm hPc hPo dmc dmo hS => ?_)
            obtain ⟨em3, e3⟩ := hw
            rw [em3] at hPm dmc dmo
            have dcm := dmc.symm
            have er3 := e3.trans er
            refine lv_iload hx hb dL_law_239 (lv_at hl 1 rfl) ?_
            refine lv_icmp_eq (tgt := 246) hx hb dL_law_241 (by decide) (fun c_241 => ?_) (fun c_241 => absurd er3 c_241)
            refine lv_iload hx hb dL_law_246 (lv_at hl 1 rfl) ?_
            refine lv_if_ne (tgt := 263) hx hb dL_law_248 (by decide) (fun c9 => absurd (by decide) c9) (fun _ => ?_)
            refine lv_aload_n hx hb dL_law_251 rfl (lv_at hl 5 rfl) ?_
            refine lv_iconst (v := 0) hx hb dL_law_252 (by decide) ?_
            refine lw_lald hE hPo 5 lw_o_s rfl dL_law_253 ?_
            refine lv_iload hx hb dL_law_254 (lv_at hl 0 rfl) ?_
            refine lv_i2l (v := r2.toInt64) hx hb dL_law_256 rfl ?_
            refine W.lcmp hx hb dL_law_257 ?_
            refine lv_if_eq (tgt := 263) hx hb dL_law_258 (by decide) (fun _ => ?_) (fun c9 => absurd (lg_cmp_0 (by rw [er2]; rfl)) c9)
            refine lv_goto (tgt := 821) hx hb dL_law_263 (by decide) ?_
            refine lv_iinc (v := nI (4 * (i + 1))) (lv' := [(4, .int (nI (4 * (i + 1)))), (6, .int r2), (5, .int 0), (0, .ref b0), (1, .ref (h 0)), (2, .ref (ad 0)), (3, .ref o9)]) hx hb dL_law_821 hl (k := 6) rfl (by rw [show (4 * (i + 1)) = 4 * i + 4 by omega]; exact nI_add _ _) (by decide) rfl (fun ls hl => ?_)
            refine lv_goto (tgt := 23) hx hb dL_law_824 (by decide) ?_
            refine rw_cs (k := 15 + 8 * (i + 1)) (n := 8307 + 800 * (i + 1)) (by omega) (by omega) ?_
            exact ih (i + 1) b T n c9 g L X v2 Mc (vp_updL f9 0 (g 1 (256 * a9 + j9)).toInt64) (by omega) (by omega) ⟨hR, hT, hn9, hs, hV2, hNx.up, h99⟩ H locs hPc hPm hPo dcm dco dmo hS ls (lv_sub hl [3, 4, 5, 6, 0] rfl)
          · have hPc : mw_Q (fun q : Nat => s.heap.size ≤ q) D vwCl Mc H := hPu.mono (fun q e hq => by rw [eM9, mw_up_n (hoc q e hq)]; exact hq)
            have hPo : mw_Q (fun q : Nat => s.heap.size ≤ q) D vwCl (lw_o k o9 f9) H := hPu.mono (fun q e hq => by obtain ⟨h1, h2⟩ := lw_o_sub hq; rw [h1, h2, eM9]; exact mw_up_s)
            have dmo : dj (mo_M (k 0) ad v g) (lw_o k o9 f9) := dj.symm (du.sub (fun q e hq => by obtain ⟨h1, h2⟩ := lw_o_sub hq; rw [h1, h2, eM9]; exact mw_up_s))
            have dco : dj Mc (lw_o k o9 f9) := fun q e1 e2 h1 h2 => hoc q e1 h1 (lw_o_sub h2).1
            refine lv_istore (lv' := [(5, .int 1), (0, .ref b0), (1, .ref (h 0)), (2, .ref (ad 0)), (3, .ref o9), (4, .int (nI (4 * i)))]) hx hb dL_law_215 hl (by decide) rfl (fun ls hl => ?_)
            refine lv_aload_n hx hb dL_law_217 rfl (lv_at hl 3 rfl) ?_
            refine lv_aload_n hx hb dL_law_218 rfl (lv_at hl 1 rfl) ?_
            refine lv_iload hx hb dL_law_219 (lv_at hl 5 rfl) ?_
            refine lv_iconst (v := 1) hx hb dL_law_221 (by decide) ?_
            refine lv_iadd hx hb dL_law_222 ?_
            refine rw_i (v := nI ((4 * i) + 1)) (nI_1 _) ?_
            refine lw_sld hx hb hX9 hbl hbA hS (by omega) dL_law_223 (by omega) ?_
            refine lv_aload_n hx hb dL_law_224 rfl (lv_at hl 1 rfl) ?_
            refine lv_iload hx hb dL_law_225 (lv_at hl 5 rfl) ?_
            refine lv_iconst (v := nI 2) hx hb dL_law_227 (by decide) ?_
            refine lv_iadd hx hb dL_law_228 ?_
            refine rw_i (v := nI ((4 * i) + 2)) (nI_add _ _) ?_
            refine lw_sld hx hb hX9 hbl hbA hS (by omega) dL_law_229 (by omega) ?_
            refine lw_calli hPm hPc hPo dcm.symm dmo hS hA (va_runV (As := [.int (xs ((4 * i) + 1)), .int (xs ((4 * i) + 2))]) (rest := []) ⟨hx, hb, hml, hE.2.2.2.1, hE.2.2.1⟩ (tX4_row l D k _ _ ad v g n (xs ((4 * i) + 1)) (xs ((4 * i) + 2)) hN hV hn9 rfl) (cwV 2 hE.2.2.1 gL_law_X4_row rfl rfl rfl (by decide +kernel) ⟨(Nat.le_of_ble_eq_true rfl), (Nat.le_of_ble_eq_true rfl)⟩) (mw_preV hE hPm (ci := 5) rfl rfl mo_o [.int (xs ((4 * i) + 1)), .int (xs ((4 * i) + 2))]) rfl rfl hl.1 rfl (lv_room (Nat.le_of_ble_eq_true rfl)) dL_law_230 ⟨lw_rc (by show 15 + 8 * i + 1 + 0 ≤ 600000; omega), lw_rs (by show 8307 + 800 * i + 6 + 0 ≤ 7000000; omega)⟩) (fun r2 M2 H locs hw hPm hPc hPo dmc dmo hS => ?_)
            obtain ⟨v2, em, hV2, hr2⟩ := hw
            rw [em] at hPm dmc dmo
            have dcm := dmc.symm
            have er := lrow_1 hn9 hno hr2
            refine lv_istore (lv' := [(6, .int r2), (5, .int 1), (0, .ref b0), (1, .ref (h 0)), (2, .ref (ad 0)), (3, .ref o9), (4, .int (nI (4 * i)))]) hx hb dL_law_233 hl (by decide) rfl (fun ls hl => ?_)
            refine lv_aload_n hx hb dL_law_235 rfl (lv_at hl 4 rfl) ?_
            refine lw_calli hPm hPc hPo dcm.symm dmo hS hA (va_runV (As := []) (rest := []) ⟨hx, hb, hml, hE.2.2.2.1, hE.2.2.1⟩ (tX4_thrown l D k _ _ ad v2 g n hN hV2 hn9 rfl) (cwV 0 hE.2.2.1 gL_law_X4_thrown rfl rfl rfl (by decide +kernel) ⟨(Nat.le_of_ble_eq_true rfl), (Nat.le_of_ble_eq_true rfl)⟩) (mw_preV hE hPm (ci := 5) rfl rfl mo_o []) rfl rfl hl.1 rfl (lv_room (Nat.le_of_ble_eq_true rfl)) dL_law_236 ⟨lw_rc (by show 15 + 8 * i + 1 + 0 ≤ 600000; omega), lw_rs (by show 8307 + 800 * i + 6 + 0 ≤ 7000000; omega)⟩) (fun r3 M3 H locs hw hPm hPc hPo dmc dmo hS => ?_)
            obtain ⟨em3, e3⟩ := hw
            rw [em3] at hPm dmc dmo
            have dcm := dmc.symm
            have er3 := e3.trans er
            refine lv_iload hx hb dL_law_239 (lv_at hl 1 rfl) ?_
            refine lv_icmp_eq (tgt := 246) hx hb dL_law_241 (by decide) (fun c_241 => ?_) (fun c_241 => absurd er3 c_241)
            refine lv_iload hx hb dL_law_246 (lv_at hl 1 rfl) ?_
            refine lv_if_ne (tgt := 263) hx hb dL_law_248 (by decide) (fun _ => ?_) (fun c9 => absurd c9 (by decide))
            refine lv_goto (tgt := 821) hx hb dL_law_263 (by decide) ?_
            refine lv_iinc (v := nI (4 * (i + 1))) (lv' := [(4, .int (nI (4 * (i + 1)))), (6, .int r2), (5, .int 1), (0, .ref b0), (1, .ref (h 0)), (2, .ref (ad 0)), (3, .ref o9)]) hx hb dL_law_821 hl (k := 6) rfl (by rw [show (4 * (i + 1)) = 4 * i + 4 by omega]; exact nI_add _ _) (by decide) rfl (fun ls hl => ?_)
            refine lv_goto (tgt := 23) hx hb dL_law_824 (by decide) ?_
            refine rw_cs (k := 15 + 8 * (i + 1)) (n := 8307 + 800 * (i + 1)) (by omega) (by omega) ?_
            exact ih (i + 1) b T n c9 g L X v2 Mc f9 (by omega) (by omega) ⟨hR, hT, hn9, hs, hV2, hNx.up, h99⟩ H locs hPc hPm hPo dcm dco dmo hS ls (lv_sub hl [3, 4, 5, 6, 0] rfl)
        · subst ejw
          refine lv_tableIn (off := 227) (tgt := 266) hx hb dL_law_39 (by decide +kernel) (by decide +kernel) (by decide +kernel) (by decide) ?_
          refine lv_aload_n hx hb dL_law_266 rfl (lv_at hl 1 rfl) ?_
          refine lv_aload_n hx hb dL_law_267 rfl (lv_at hl 0 rfl) ?_
          refine lv_iload hx hb dL_law_268 (lv_at hl 4 rfl) ?_
          refine lv_iconst (v := 1) hx hb dL_law_270 (by decide) ?_
          refine lv_iadd hx hb dL_law_271 ?_
          refine rw_i (v := nI ((4 * i) + 1)) (nI_1 _) ?_
          refine lw_sld hx hb hX9 hbl hbA hS (by omega) dL_law_272 (by omega) ?_
          refine lv_aload_n hx hb dL_law_273 rfl (lv_at hl 0 rfl) ?_
          refine lv_iload hx hb dL_law_274 (lv_at hl 4 rfl) ?_
          refine lv_iconst (v := nI 2) hx hb dL_law_276 (by decide) ?_
          refine lv_iadd hx hb dL_law_277 ?_
          refine rw_i (v := nI ((4 * i) + 2)) (nI_add _ _) ?_
          refine lw_sld hx hb hX9 hbl hbA hS (by omega) dL_law_278 (by omega) ?_
          refine lw_calli hPc hPm hPo dcm dco hS hA (va_runV (As := [.int (xs ((4 * i) + 1)), .int (xs ((4 * i) + 2))]) (rest := []) ⟨hx, hb, hml, hE.2.2.2.1, hE.2.2.1⟩ (tX3_standIn l D k _ _ h b T n c9 g L X (xs ((4 * i) + 1)) (xs ((4 * i) + 2)) hR hT hn9 hs) (cwV 2 hE.2.2.1 gL_law_X3_standIn rfl rfl rfl (by decide +kernel) ⟨(Nat.le_of_ble_eq_true rfl), (Nat.le_of_ble_eq_true rfl)⟩) (mw_preV hE hPc (ci := 4) rfl rfl hR.1.1 [.int (xs ((4 * i) + 1)), .int (xs ((4 * i) + 2))]) rfl rfl hl.1 rfl (lv_room (Nat.le_of_ble_eq_true rfl)) dL_law_279 ⟨lw_rc (by show 15 + 8 * i + 0 ≤ 600000; omega), lw_rs (by show 8307 + 800 * i + 0 ≤ 7000000; omega)⟩) (fun r1 M1 H locs hw hPc hPm hPo dcm dco hS => ?_)
          obtain ⟨c1, g1, hR1, hs1, hr1⟩ := hw
          refine lv_aload_n hx hb dL_law_282 rfl (lv_at hl 2 rfl) ?_
          refine lv_aload_n hx hb dL_law_283 rfl (lv_at hl 0 rfl) ?_
          refine lv_iload hx hb dL_law_284 (lv_at hl 4 rfl) ?_
          refine lv_iconst (v := 1) hx hb dL_law_286 (by decide) ?_
          refine lv_iadd hx hb dL_law_287 ?_
          refine rw_i (v := nI ((4 * i) + 1)) (nI_1 _) ?_
          refine lw_sld hx hb hX9 hbl hbA hS (by omega) dL_law_288 (by omega) ?_
          refine lv_aload_n hx hb dL_law_289 rfl (lv_at hl 0 rfl) ?_
          refine lv_iload hx hb dL_law_290 (lv_at hl 4 rfl) ?_
          refine lv_iconst (v := nI 2) hx hb dL_law_292 (by decide) ?_
          refine lv_iadd hx hb dL_law_293 ?_
          refine rw_i (v := nI ((4 * i) + 2)) (nI_add _ _) ?_
          refine lw_sld hx hb hX9 hbl hbA hS (by omega) dL_law_294 (by omega) ?_
          refine lw_calli hPm hPc hPo dcm.symm dmo hS hA (va_runV (As := [.int (xs ((4 * i) + 1)), .int (xs ((4 * i) + 2))]) (rest := [.int r1]) ⟨hx, hb, hml, hE.2.2.2.1, hE.2.2.1⟩ (tX4_standIn l D k _ _ ad v g n (xs ((4 * i) + 1)) (xs ((4 * i) + 2)) hN hV hn9 rfl) (cwV 2 hE.2.2.1 gL_law_X4_standIn rfl rfl rfl (by decide +kernel) ⟨(Nat.le_of_ble_eq_true rfl), (Nat.le_of_ble_eq_true rfl)⟩) (mw_preV hE hPm (ci := 5) rfl rfl mo_o [.int (xs ((4 * i) + 1)), .int (xs ((4 * i) + 2))]) rfl rfl hl.1 rfl (lv_room (Nat.le_of_ble_eq_true rfl)) dL_law_295 ⟨lw_rc (by show 15 + 8 * i + 0 ≤ 600000; omega), lw_rs (by show 8307 + 800 * i + 0 ≤ 7000000; omega)⟩) (fun r2 M2 H locs hw hPm hPc hPo dmc dmo hS => ?_)
          obtain ⟨v2, g2, em, hV2, hr2⟩ := hw
          rw [em] at hPm dmc dmo
          have dcm := dmc.symm
          obtain ⟨er, rg⟩ := det_standIn hn9 hr1 hr2
          rw [← rg] at hPm dcm dmo
          refine lv_icmp_eq (tgt := 821) hx hb dL_law_298 (by decide) (fun c_298 => ?_) (fun c_298 => absurd er c_298)
          refine lv_iinc (v := nI (4 * (i + 1))) (lv' := [(4, .int (nI (4 * (i + 1)))), (0, .ref b0), (1, .ref (h 0)), (2, .ref (ad 0)), (3, .ref o9)]) hx hb dL_law_821 hl (k := 4) rfl (by rw [show (4 * (i + 1)) = 4 * i + 4 by omega]; exact nI_add _ _) (by decide) rfl (fun ls hl => ?_)
          refine lv_goto (tgt := 23) hx hb dL_law_824 (by decide) ?_
          refine rw_cs (k := 15 + 8 * (i + 1)) (n := 8307 + 800 * (i + 1)) (by omega) (by omega) ?_
          exact ih (i + 1) b T n c1 g1 L X v2 M1 f9 (by omega) (by omega) ⟨hR1, hT, hn9, hs1, hV2, li_standIn_N hr1 hNx, li_standIn_9 hr1 h99⟩ H locs hPc hPm hPo dcm dco dmo hS ls (lv_sub hl [1, 2, 3, 4, 0] rfl)
        · subst ejw
          refine lv_tableIn (off := 264) (tgt := 303) hx hb dL_law_39 (by decide +kernel) (by decide +kernel) (by decide +kernel) (by decide) ?_
          refine lv_aload_n hx hb dL_law_303 rfl (lv_at hl 1 rfl) ?_
          refine lv_aload_n hx hb dL_law_304 rfl (lv_at hl 0 rfl) ?_
          refine lv_iload hx hb dL_law_305 (lv_at hl 4 rfl) ?_
          refine lv_iconst (v := 1) hx hb dL_law_307 (by decide) ?_
          refine lv_iadd hx hb dL_law_308 ?_
          refine rw_i (v := nI ((4 * i) + 1)) (nI_1 _) ?_
          refine lw_sld hx hb hX9 hbl hbA hS (by omega) dL_law_309 (by omega) ?_
          refine lv_aload_n hx hb dL_law_310 rfl (lv_at hl 0 rfl) ?_
          refine lv_iload hx hb dL_law_311 (lv_at hl 4 rfl) ?_
          refine lv_iconst (v := nI 2) hx hb dL_law_313 (by decide) ?_
          refine lv_iadd hx hb dL_law_314 ?_
          refine rw_i (v := nI ((4 * i) + 2)) (nI_add _ _) ?_
          refine lw_sld hx hb hX9 hbl hbA hS (by omega) dL_law_315 (by omega) ?_
          refine lv_aload_n hx hb dL_law_316 rfl (lv_at hl 0 rfl) ?_
          refine lv_iload hx hb dL_law_317 (lv_at hl 4 rfl) ?_
          refine lv_iconst (v := nI 3) hx hb dL_law_319 (by decide) ?_
          refine lv_iadd hx hb dL_law_320 ?_
          refine rw_i (v := nI ((4 * i) + 3)) (nI_add _ _) ?_
          refine lw_sld hx hb hX9 hbl hbA hS (by omega) dL_law_321 (by omega) ?_
          refine lw_calli hPc hPm hPo dcm dco hS hA (va_runV (As := [.int (xs ((4 * i) + 1)), .int (xs ((4 * i) + 2)), .int (xs ((4 * i) + 3))]) (rest := []) ⟨hx, hb, hml, hE.2.2.2.1, hE.2.2.1⟩ (tX3_translate l D k _ _ h b T n c9 g L X (xs ((4 * i) + 1)) (xs ((4 * i) + 2)) (xs ((4 * i) + 3)) hR hT hn9 hs) (cwV 3 hE.2.2.1 gL_law_X3_translate rfl rfl rfl (by decide +kernel) ⟨(Nat.le_of_ble_eq_true rfl), (Nat.le_of_ble_eq_true rfl)⟩) (mw_preV hE hPc (ci := 4) rfl rfl hR.1.1 [.int (xs ((4 * i) + 1)), .int (xs ((4 * i) + 2)), .int (xs ((4 * i) + 3))]) rfl rfl hl.1 rfl (lv_room (Nat.le_of_ble_eq_true rfl)) dL_law_322 ⟨lw_rc (by show 15 + 8 * i + 0 ≤ 600000; omega), lw_rs (by show 8307 + 800 * i + 0 ≤ 7000000; omega)⟩) (fun r1 M1 H locs hw hPc hPm hPo dcm dco hS => ?_)
          obtain ⟨n1, c1, g1, hR1, hs1, hr1⟩ := hw
          refine lv_aload_n hx hb dL_law_325 rfl (lv_at hl 2 rfl) ?_
          refine lv_aload_n hx hb dL_law_326 rfl (lv_at hl 0 rfl) ?_
          refine lv_iload hx hb dL_law_327 (lv_at hl 4 rfl) ?_
          refine lv_iconst (v := 1) hx hb dL_law_329 (by decide) ?_
          refine lv_iadd hx hb dL_law_330 ?_
          refine rw_i (v := nI ((4 * i) + 1)) (nI_1 _) ?_
          refine lw_sld hx hb hX9 hbl hbA hS (by omega) dL_law_331 (by omega) ?_
          refine lv_aload_n hx hb dL_law_332 rfl (lv_at hl 0 rfl) ?_
          refine lv_iload hx hb dL_law_333 (lv_at hl 4 rfl) ?_
          refine lv_iconst (v := nI 2) hx hb dL_law_335 (by decide) ?_
          refine lv_iadd hx hb dL_law_336 ?_
          refine rw_i (v := nI ((4 * i) + 2)) (nI_add _ _) ?_
          refine lw_sld hx hb hX9 hbl hbA hS (by omega) dL_law_337 (by omega) ?_
          refine lv_aload_n hx hb dL_law_338 rfl (lv_at hl 0 rfl) ?_
          refine lv_iload hx hb dL_law_339 (lv_at hl 4 rfl) ?_
          refine lv_iconst (v := nI 3) hx hb dL_law_341 (by decide) ?_
          refine lv_iadd hx hb dL_law_342 ?_
          refine rw_i (v := nI ((4 * i) + 3)) (nI_add _ _) ?_
          refine lw_sld hx hb hX9 hbl hbA hS (by omega) dL_law_343 (by omega) ?_
          refine lw_calli hPm hPc hPo dcm.symm dmo hS hA (va_runV (As := [.int (xs ((4 * i) + 1)), .int (xs ((4 * i) + 2)), .int (xs ((4 * i) + 3))]) (rest := [.int r1]) ⟨hx, hb, hml, hE.2.2.2.1, hE.2.2.1⟩ (tX4_translate l D k _ _ ad v g n (xs ((4 * i) + 1)) (xs ((4 * i) + 2)) (xs ((4 * i) + 3)) hN hV hn9 rfl) (cwV 3 hE.2.2.1 gL_law_X4_translate rfl rfl rfl (by decide +kernel) ⟨(Nat.le_of_ble_eq_true rfl), (Nat.le_of_ble_eq_true rfl)⟩) (mw_preV hE hPm (ci := 5) rfl rfl mo_o [.int (xs ((4 * i) + 1)), .int (xs ((4 * i) + 2)), .int (xs ((4 * i) + 3))]) rfl rfl hl.1 rfl (lv_room (Nat.le_of_ble_eq_true rfl)) dL_law_344 ⟨lw_rc (by show 15 + 8 * i + 0 ≤ 600000; omega), lw_rs (by show 8307 + 800 * i + 0 ≤ 7000000; omega)⟩) (fun r2 M2 H locs hw hPm hPc hPo dmc dmo hS => ?_)
          obtain ⟨v2, g2, n2, em, hV2, hr2⟩ := hw
          rw [em] at hPm dmc dmo
          have dcm := dmc.symm
          obtain ⟨er, rn, rg⟩ := det_translate hn9 hr1 hr2
          rw [← rg] at hPm dcm dmo
          rw [← rn] at hV2
          refine lv_icmp_eq (tgt := 821) hx hb dL_law_347 (by decide) (fun c_347 => ?_) (fun c_347 => absurd er c_347)
          refine lv_iinc (v := nI (4 * (i + 1))) (lv' := [(4, .int (nI (4 * (i + 1)))), (0, .ref b0), (1, .ref (h 0)), (2, .ref (ad 0)), (3, .ref o9)]) hx hb dL_law_821 hl (k := 4) rfl (by rw [show (4 * (i + 1)) = 4 * i + 4 by omega]; exact nI_add _ _) (by decide) rfl (fun ls hl => ?_)
          refine lv_goto (tgt := 23) hx hb dL_law_824 (by decide) ?_
          refine rw_cs (k := 15 + 8 * (i + 1)) (n := 8307 + 800 * (i + 1)) (by omega) (by omega) ?_
          exact ih (i + 1) b T n1 c1 g1 L X v2 M1 f9 (by omega) (by omega) ⟨hR1, cp_Tn hT (li_translate_n hr1 (by decide)) (li_translate_n hr1 (by decide)) (li_translate_n hr1 (by decide)), li_translate_B hn9 hr1, hs1, hV2, li_translate_N hr1 hNx, li_translate_9 hr1 h99⟩ H locs hPc hPm hPo dcm dco dmo hS ls (lv_sub hl [1, 2, 3, 4, 0] rfl)
        · subst ejw
          refine lv_tableIn (off := 313) (tgt := 352) hx hb dL_law_39 (by decide +kernel) (by decide +kernel) (by decide +kernel) (by decide) ?_
          refine lv_aload_n hx hb dL_law_352 rfl (lv_at hl 1 rfl) ?_
          refine lv_aload_n hx hb dL_law_353 rfl (lv_at hl 0 rfl) ?_
          refine lv_iload hx hb dL_law_354 (lv_at hl 4 rfl) ?_
          refine lv_iconst (v := 1) hx hb dL_law_356 (by decide) ?_
          refine lv_iadd hx hb dL_law_357 ?_
          refine rw_i (v := nI ((4 * i) + 1)) (nI_1 _) ?_
          refine lw_sld hx hb hX9 hbl hbA hS (by omega) dL_law_358 (by omega) ?_
          refine lw_calli hPc hPm hPo dcm dco hS hA (va_runV (As := [.int (xs ((4 * i) + 1))]) (rest := []) ⟨hx, hb, hml, hE.2.2.2.1, hE.2.2.1⟩ (tX3_told l D k _ _ h b T n c9 g L X (xs ((4 * i) + 1)) hR hT hn9 hs) (cwV 1 hE.2.2.1 gL_law_X3_told rfl rfl rfl (by decide +kernel) ⟨(Nat.le_of_ble_eq_true rfl), (Nat.le_of_ble_eq_true rfl)⟩) (mw_preV hE hPc (ci := 4) rfl rfl hR.1.1 [.int (xs ((4 * i) + 1))]) rfl rfl hl.1 rfl (lv_room (Nat.le_of_ble_eq_true rfl)) dL_law_359 ⟨lw_rc (by show 15 + 8 * i + 0 ≤ 600000; omega), lw_rs (by show 8307 + 800 * i + 0 ≤ 7000000; omega)⟩) (fun r1 M1 H locs hw hPc hPm hPo dcm dco hS => ?_)
          obtain ⟨hM1, hr1⟩ := hw
          rw [hM1] at hPc dcm dco
          refine lv_aload_n hx hb dL_law_362 rfl (lv_at hl 2 rfl) ?_
          refine lv_aload_n hx hb dL_law_363 rfl (lv_at hl 0 rfl) ?_
          refine lv_iload hx hb dL_law_364 (lv_at hl 4 rfl) ?_
          refine lv_iconst (v := 1) hx hb dL_law_366 (by decide) ?_
          refine lv_iadd hx hb dL_law_367 ?_
          refine rw_i (v := nI ((4 * i) + 1)) (nI_1 _) ?_
          refine lw_sld hx hb hX9 hbl hbA hS (by omega) dL_law_368 (by omega) ?_
          refine lw_calli hPm hPc hPo dcm.symm dmo hS hA (va_runV (As := [.int (xs ((4 * i) + 1))]) (rest := [.int r1]) ⟨hx, hb, hml, hE.2.2.2.1, hE.2.2.1⟩ (tX4_told l D k _ _ ad v g n (xs ((4 * i) + 1)) hN hV hn9 rfl) (cwV 1 hE.2.2.1 gL_law_X4_told rfl rfl rfl (by decide +kernel) ⟨(Nat.le_of_ble_eq_true rfl), (Nat.le_of_ble_eq_true rfl)⟩) (mw_preV hE hPm (ci := 5) rfl rfl mo_o [.int (xs ((4 * i) + 1))]) rfl rfl hl.1 rfl (lv_room (Nat.le_of_ble_eq_true rfl)) dL_law_369 ⟨lw_rc (by show 15 + 8 * i + 0 ≤ 600000; omega), lw_rs (by show 8307 + 800 * i + 0 ≤ 7000000; omega)⟩) (fun r2 M2 H locs hw hPm hPc hPo dmc dmo hS => ?_)
          obtain ⟨v2, em, hV2, hr2⟩ := hw
          rw [em] at hPm dmc dmo
          have dcm := dmc.symm
          have er := det_told hn9 hr1 hr2
          refine lv_icmp_eq (tgt := 821) hx hb dL_law_372 (by decide) (fun c_372 => ?_) (fun c_372 => absurd er c_372)
          refine lv_iinc (v := nI (4 * (i + 1))) (lv' := [(4, .int (nI (4 * (i + 1)))), (0, .ref b0), (1, .ref (h 0)), (2, .ref (ad 0)), (3, .ref o9)]) hx hb dL_law_821 hl (k := 4) rfl (by rw [show (4 * (i + 1)) = 4 * i + 4 by omega]; exact nI_add _ _) (by decide) rfl (fun ls hl => ?_)
          refine lv_goto (tgt := 23) hx hb dL_law_824 (by decide) ?_
          refine rw_cs (k := 15 + 8 * (i + 1)) (n := 8307 + 800 * (i + 1)) (by omega) (by omega) ?_
          exact ih (i + 1) b T n c9 g L X v2 Mc f9 (by omega) (by omega) ⟨hR, hT, hn9, hs, hV2, hNx.up, h99⟩ H locs hPc hPm hPo dcm dco dmo hS ls (lv_sub hl [1, 2, 3, 4, 0] rfl)
        · subst ejw
          refine lv_tableIn (off := 338) (tgt := 377) hx hb dL_law_39 (by decide +kernel) (by decide +kernel) (by decide +kernel) (by decide) ?_
          refine lv_aload_n hx hb dL_law_377 rfl (lv_at hl 1 rfl) ?_
          refine lv_aload_n hx hb dL_law_378 rfl (lv_at hl 0 rfl) ?_
          refine lv_iload hx hb dL_law_379 (lv_at hl 4 rfl) ?_
          refine lv_iconst (v := 1) hx hb dL_law_381 (by decide) ?_
          refine lv_iadd hx hb dL_law_382 ?_
          refine rw_i (v := nI ((4 * i) + 1)) (nI_1 _) ?_
          refine lw_sld hx hb hX9 hbl hbA hS (by omega) dL_law_383 (by omega) ?_
          refine lw_calli hPc hPm hPo dcm dco hS hA (va_runV (As := [.int (xs ((4 * i) + 1))]) (rest := []) ⟨hx, hb, hml, hE.2.2.2.1, hE.2.2.1⟩ (tX3_order l D k _ _ h b T n c9 g L X (xs ((4 * i) + 1)) hR hT hn9 hs) (cwV 1 hE.2.2.1 gL_law_X3_order rfl rfl rfl (by decide +kernel) ⟨(Nat.le_of_ble_eq_true rfl), (Nat.le_of_ble_eq_true rfl)⟩) (mw_preV hE hPc (ci := 4) rfl rfl hR.1.1 [.int (xs ((4 * i) + 1))]) rfl rfl hl.1 rfl (lv_room (Nat.le_of_ble_eq_true rfl)) dL_law_384 ⟨lw_rc (by show 15 + 8 * i + 4 ≤ 600000; omega), lw_rs (by show 8307 + 800 * i + 772 ≤ 7000000; omega)⟩) (fun r1 M1 H locs hw hPc hPm hPo dcm dco hS => ?_)
          obtain ⟨b1, T1, n1, c1, g1, hR1, hT1, hs1, hr1⟩ := hw
          refine lv_aload_n hx hb dL_law_387 rfl (lv_at hl 2 rfl) ?_
          refine lv_aload_n hx hb dL_law_388 rfl (lv_at hl 0 rfl) ?_
          refine lv_iload hx hb dL_law_389 (lv_at hl 4 rfl) ?_
          refine lv_iconst (v := 1) hx hb dL_law_391 (by decide) ?_
          refine lv_iadd hx hb dL_law_392 ?_
          refine rw_i (v := nI ((4 * i) + 1)) (nI_1 _) ?_
          refine lw_sld hx hb hX9 hbl hbA hS (by omega) dL_law_393 (by omega) ?_
          refine lw_calli hPm hPc hPo dcm.symm dmo hS hA (va_runV (As := [.int (xs ((4 * i) + 1))]) (rest := [.int r1]) ⟨hx, hb, hml, hE.2.2.2.1, hE.2.2.1⟩ (tX4_order l D k _ _ ad v g n (xs ((4 * i) + 1)) hN hV hn9 rfl) (cwV 1 hE.2.2.1 gL_law_X4_order rfl rfl rfl (by decide +kernel) ⟨(Nat.le_of_ble_eq_true rfl), (Nat.le_of_ble_eq_true rfl)⟩) (mw_preV hE hPm (ci := 5) rfl rfl mo_o [.int (xs ((4 * i) + 1))]) rfl rfl hl.1 rfl (lv_room (Nat.le_of_ble_eq_true rfl)) dL_law_394 ⟨lw_rc (by show 15 + 8 * i + 4 + 0 ≤ 600000; omega), lw_rs (by show 8307 + 800 * i + 772 + 0 ≤ 7000000; omega)⟩) (fun r2 M2 H locs hw hPm hPc hPo dmc dmo hS => ?_)
          obtain ⟨v2, g2, n2, em, hV2, hr2⟩ := hw
          rw [em] at hPm dmc dmo
          have dcm := dmc.symm
          obtain ⟨er, rn, rg⟩ := det_order hr1 hr2
          rw [← rg] at hPm dcm dmo
          rw [← rn] at hV2
          refine lv_icmp_eq (tgt := 821) hx hb dL_law_397 (by decide) (fun c_397 => ?_) (fun c_397 => absurd er c_397)
          refine lv_iinc (v := nI (4 * (i + 1))) (lv' := [(4, .int (nI (4 * (i + 1)))), (0, .ref b0), (1, .ref (h 0)), (2, .ref (ad 0)), (3, .ref o9)]) hx hb dL_law_821 hl (k := 4) rfl (by rw [show (4 * (i + 1)) = 4 * i + 4 by omega]; exact nI_add _ _) (by decide) rfl (fun ls hl => ?_)
          refine lv_goto (tgt := 23) hx hb dL_law_824 (by decide) ?_
          refine rw_cs (k := 15 + 8 * (i + 1)) (n := 8307 + 800 * (i + 1)) (by omega) (by omega) ?_
          exact ih (i + 1) b1 T1 n1 c1 g1 L X v2 M1 f9 (by omega) (by omega) ⟨hR1, hT1, li_order_B hn9 hr1, hs1, hV2, li_order_N hr1 hNx, li_order_9 hr1 h99⟩ H locs hPc hPm hPo dcm dco dmo hS ls (lv_sub hl [1, 2, 3, 4, 0] rfl)
        · subst ejw
          refine lv_tableIn (off := 363) (tgt := 402) hx hb dL_law_39 (by decide +kernel) (by decide +kernel) (by decide +kernel) (by decide) ?_
          refine lv_aload_n hx hb dL_law_402 rfl (lv_at hl 1 rfl) ?_
          refine lv_aload_n hx hb dL_law_403 rfl (lv_at hl 0 rfl) ?_
          refine lv_iload hx hb dL_law_404 (lv_at hl 4 rfl) ?_
          refine lv_iconst (v := 1) hx hb dL_law_406 (by decide) ?_
          refine lv_iadd hx hb dL_law_407 ?_
          refine rw_i (v := nI ((4 * i) + 1)) (nI_1 _) ?_
          refine lw_sld hx hb hX9 hbl hbA hS (by omega) dL_law_408 (by omega) ?_
          refine lv_aload_n hx hb dL_law_409 rfl (lv_at hl 0 rfl) ?_
          refine lv_iload hx hb dL_law_410 (lv_at hl 4 rfl) ?_
          refine lv_iconst (v := nI 2) hx hb dL_law_412 (by decide) ?_
          refine lv_iadd hx hb dL_law_413 ?_
          refine rw_i (v := nI ((4 * i) + 2)) (nI_add _ _) ?_
          refine lw_sld hx hb hX9 hbl hbA hS (by omega) dL_law_414 (by omega) ?_
          refine lv_aload_n hx hb dL_law_415 rfl (lv_at hl 0 rfl) ?_
          refine lv_iload hx hb dL_law_416 (lv_at hl 4 rfl) ?_
          refine lv_iconst (v := nI 3) hx hb dL_law_418 (by decide) ?_
          refine lv_iadd hx hb dL_law_419 ?_
          refine rw_i (v := nI ((4 * i) + 3)) (nI_add _ _) ?_
          refine lw_sld hx hb hX9 hbl hbA hS (by omega) dL_law_420 (by omega) ?_
          refine lw_calli hPc hPm hPo dcm dco hS hA (va_runV (As := [.int (xs ((4 * i) + 1)), .int (xs ((4 * i) + 2)), .int (xs ((4 * i) + 3))]) (rest := []) ⟨hx, hb, hml, hE.2.2.2.1, hE.2.2.1⟩ (tX3_also l D k _ _ h b T n c9 g L X (xs ((4 * i) + 1)) (xs ((4 * i) + 2)) (xs ((4 * i) + 3)) hR hT hn9 hs) (cwV 3 hE.2.2.1 gL_law_X3_also rfl rfl rfl (by decide +kernel) ⟨(Nat.le_of_ble_eq_true rfl), (Nat.le_of_ble_eq_true rfl)⟩) (mw_preV hE hPc (ci := 4) rfl rfl hR.1.1 [.int (xs ((4 * i) + 1)), .int (xs ((4 * i) + 2)), .int (xs ((4 * i) + 3))]) rfl rfl hl.1 rfl (lv_room (Nat.le_of_ble_eq_true rfl)) dL_law_421 ⟨lw_rc (by show 15 + 8 * i + 0 ≤ 600000; omega), lw_rs (by show 8307 + 800 * i + 0 ≤ 7000000; omega)⟩) (fun r1 M1 H locs hw hPc hPm hPo dcm dco hS => ?_)
          obtain ⟨c1, g1, hR1, hs1, hr1⟩ := hw
          refine lv_aload_n hx hb dL_law_424 rfl (lv_at hl 2 rfl) ?_
          refine lv_aload_n hx hb dL_law_425 rfl (lv_at hl 0 rfl) ?_
          refine lv_iload hx hb dL_law_426 (lv_at hl 4 rfl) ?_
          refine lv_iconst (v := 1) hx hb dL_law_428 (by decide) ?_
          refine lv_iadd hx hb dL_law_429 ?_
          refine rw_i (v := nI ((4 * i) + 1)) (nI_1 _) ?_
          refine lw_sld hx hb hX9 hbl hbA hS (by omega) dL_law_430 (by omega) ?_
          refine lv_aload_n hx hb dL_law_431 rfl (lv_at hl 0 rfl) ?_
          refine lv_iload hx hb dL_law_432 (lv_at hl 4 rfl) ?_
          refine lv_iconst (v := nI 2) hx hb dL_law_434 (by decide) ?_
          refine lv_iadd hx hb dL_law_435 ?_
          refine rw_i (v := nI ((4 * i) + 2)) (nI_add _ _) ?_
          refine lw_sld hx hb hX9 hbl hbA hS (by omega) dL_law_436 (by omega) ?_
          refine lv_aload_n hx hb dL_law_437 rfl (lv_at hl 0 rfl) ?_
          refine lv_iload hx hb dL_law_438 (lv_at hl 4 rfl) ?_
          refine lv_iconst (v := nI 3) hx hb dL_law_440 (by decide) ?_
          refine lv_iadd hx hb dL_law_441 ?_
          refine rw_i (v := nI ((4 * i) + 3)) (nI_add _ _) ?_
          refine lw_sld hx hb hX9 hbl hbA hS (by omega) dL_law_442 (by omega) ?_
          refine lw_calli hPm hPc hPo dcm.symm dmo hS hA (va_runV (As := [.int (xs ((4 * i) + 1)), .int (xs ((4 * i) + 2)), .int (xs ((4 * i) + 3))]) (rest := [.int r1]) ⟨hx, hb, hml, hE.2.2.2.1, hE.2.2.1⟩ (tX4_also l D k _ _ ad v g n (xs ((4 * i) + 1)) (xs ((4 * i) + 2)) (xs ((4 * i) + 3)) hN hV hn9 rfl) (cwV 3 hE.2.2.1 gL_law_X4_also rfl rfl rfl (by decide +kernel) ⟨(Nat.le_of_ble_eq_true rfl), (Nat.le_of_ble_eq_true rfl)⟩) (mw_preV hE hPm (ci := 5) rfl rfl mo_o [.int (xs ((4 * i) + 1)), .int (xs ((4 * i) + 2)), .int (xs ((4 * i) + 3))]) rfl rfl hl.1 rfl (lv_room (Nat.le_of_ble_eq_true rfl)) dL_law_443 ⟨lw_rc (by show 15 + 8 * i + 0 ≤ 600000; omega), lw_rs (by show 8307 + 800 * i + 0 ≤ 7000000; omega)⟩) (fun r2 M2 H locs hw hPm hPc hPo dmc dmo hS => ?_)
          obtain ⟨v2, g2, em, hV2, hr2⟩ := hw
          rw [em] at hPm dmc dmo
          have dcm := dmc.symm
          obtain ⟨er, rg⟩ := det_also hn9 hr1 hr2
          rw [← rg] at hPm dcm dmo
          refine lv_icmp_eq (tgt := 821) hx hb dL_law_446 (by decide) (fun c_446 => ?_) (fun c_446 => absurd er c_446)
          refine lv_iinc (v := nI (4 * (i + 1))) (lv' := [(4, .int (nI (4 * (i + 1)))), (0, .ref b0), (1, .ref (h 0)), (2, .ref (ad 0)), (3, .ref o9)]) hx hb dL_law_821 hl (k := 4) rfl (by rw [show (4 * (i + 1)) = 4 * i + 4 by omega]; exact nI_add _ _) (by decide) rfl (fun ls hl => ?_)
          refine lv_goto (tgt := 23) hx hb dL_law_824 (by decide) ?_
          refine rw_cs (k := 15 + 8 * (i + 1)) (n := 8307 + 800 * (i + 1)) (by omega) (by omega) ?_
          exact ih (i + 1) b T n c1 g1 L X v2 M1 f9 (by omega) (by omega) ⟨hR1, hT, hn9, hs1, hV2, li_also_N hr1 hNx, li_also_9 hr1 h99⟩ H locs hPc hPm hPo dcm dco dmo hS ls (lv_sub hl [1, 2, 3, 4, 0] rfl)
        · subst ejw
          refine lv_tableIn (off := 412) (tgt := 451) hx hb dL_law_39 (by decide +kernel) (by decide +kernel) (by decide +kernel) (by decide) ?_
          refine lv_aload_n hx hb dL_law_451 rfl (lv_at hl 1 rfl) ?_
          refine lv_aload_n hx hb dL_law_452 rfl (lv_at hl 0 rfl) ?_
          refine lv_iload hx hb dL_law_453 (lv_at hl 4 rfl) ?_
          refine lv_iconst (v := 1) hx hb dL_law_455 (by decide) ?_
          refine lv_iadd hx hb dL_law_456 ?_
          refine rw_i (v := nI ((4 * i) + 1)) (nI_1 _) ?_
          refine lw_sld hx hb hX9 hbl hbA hS (by omega) dL_law_457 (by omega) ?_
          refine lv_aload_n hx hb dL_law_458 rfl (lv_at hl 0 rfl) ?_
          refine lv_iload hx hb dL_law_459 (lv_at hl 4 rfl) ?_
          refine lv_iconst (v := nI 2) hx hb dL_law_461 (by decide) ?_
          refine lv_iadd hx hb dL_law_462 ?_
          refine rw_i (v := nI ((4 * i) + 2)) (nI_add _ _) ?_
          refine lw_sld hx hb hX9 hbl hbA hS (by omega) dL_law_463 (by omega) ?_
          refine lv_aload_n hx hb dL_law_464 rfl (lv_at hl 0 rfl) ?_
          refine lv_iload hx hb dL_law_465 (lv_at hl 4 rfl) ?_
          refine lv_iconst (v := nI 3) hx hb dL_law_467 (by decide) ?_
          refine lv_iadd hx hb dL_law_468 ?_
          refine rw_i (v := nI ((4 * i) + 3)) (nI_add _ _) ?_
          refine lw_sld hx hb hX9 hbl hbA hS (by omega) dL_law_469 (by omega) ?_
          refine lw_calli hPc hPm hPo dcm dco hS hA (va_runV (As := [.int (xs ((4 * i) + 1)), .int (xs ((4 * i) + 2)), .int (xs ((4 * i) + 3))]) (rest := []) ⟨hx, hb, hml, hE.2.2.2.1, hE.2.2.1⟩ (tX3_through l D k _ _ h b T n c9 g L X (256 * i) (xs ((4 * i) + 1)) (xs ((4 * i) + 2)) (xs ((4 * i) + 3)) hR hT hn9 hs hNx (by omega)) (cwV 3 hE.2.2.1 gL_law_X3_through rfl rfl rfl (by decide +kernel) ⟨(Nat.le_of_ble_eq_true rfl), (Nat.le_of_ble_eq_true rfl)⟩) (mw_preV hE hPc (ci := 4) rfl rfl hR.1.1 [.int (xs ((4 * i) + 1)), .int (xs ((4 * i) + 2)), .int (xs ((4 * i) + 3))]) rfl rfl hl.1 rfl (lv_room (Nat.le_of_ble_eq_true rfl)) dL_law_470 ⟨lw_rc (by show 15 + 8 * i + 0 ≤ 600000; omega), lw_rs (by show 8307 + 800 * i + 0 ≤ 7000000; omega)⟩) (fun r1 M1 H locs hw hPc hPm hPo dcm dco hS => ?_)
          obtain ⟨c1, g1, hR1, hs1, hr1⟩ := hw
          refine lv_aload_n hx hb dL_law_473 rfl (lv_at hl 2 rfl) ?_
          refine lv_aload_n hx hb dL_law_474 rfl (lv_at hl 0 rfl) ?_
          refine lv_iload hx hb dL_law_475 (lv_at hl 4 rfl) ?_
          refine lv_iconst (v := 1) hx hb dL_law_477 (by decide) ?_
          refine lv_iadd hx hb dL_law_478 ?_
          refine rw_i (v := nI ((4 * i) + 1)) (nI_1 _) ?_
          refine lw_sld hx hb hX9 hbl hbA hS (by omega) dL_law_479 (by omega) ?_
          refine lv_aload_n hx hb dL_law_480 rfl (lv_at hl 0 rfl) ?_
          refine lv_iload hx hb dL_law_481 (lv_at hl 4 rfl) ?_
          refine lv_iconst (v := nI 2) hx hb dL_law_483 (by decide) ?_
          refine lv_iadd hx hb dL_law_484 ?_
          refine rw_i (v := nI ((4 * i) + 2)) (nI_add _ _) ?_
          refine lw_sld hx hb hX9 hbl hbA hS (by omega) dL_law_485 (by omega) ?_
          refine lv_aload_n hx hb dL_law_486 rfl (lv_at hl 0 rfl) ?_
          refine lv_iload hx hb dL_law_487 (lv_at hl 4 rfl) ?_
          refine lv_iconst (v := nI 3) hx hb dL_law_489 (by decide) ?_
          refine lv_iadd hx hb dL_law_490 ?_
          refine rw_i (v := nI ((4 * i) + 3)) (nI_add _ _) ?_
          refine lw_sld hx hb hX9 hbl hbA hS (by omega) dL_law_491 (by omega) ?_
          refine lw_calli hPm hPc hPo dcm.symm dmo hS hA (va_runV (As := [.int (xs ((4 * i) + 1)), .int (xs ((4 * i) + 2)), .int (xs ((4 * i) + 3))]) (rest := [.int r1]) ⟨hx, hb, hml, hE.2.2.2.1, hE.2.2.1⟩ (tX4_through l D k _ _ ad v g n (xs ((4 * i) + 1)) (xs ((4 * i) + 2)) (xs ((4 * i) + 3)) hN hV hn9 rfl) (cwV 3 hE.2.2.1 gL_law_X4_through rfl rfl rfl (by decide +kernel) ⟨(Nat.le_of_ble_eq_true rfl), (Nat.le_of_ble_eq_true rfl)⟩) (mw_preV hE hPm (ci := 5) rfl rfl mo_o [.int (xs ((4 * i) + 1)), .int (xs ((4 * i) + 2)), .int (xs ((4 * i) + 3))]) rfl rfl hl.1 rfl (lv_room (Nat.le_of_ble_eq_true rfl)) dL_law_492 ⟨lw_rc (by show 15 + 8 * i + 0 ≤ 600000; omega), lw_rs (by show 8307 + 800 * i + 0 ≤ 7000000; omega)⟩) (fun r2 M2 H locs hw hPm hPc hPo dmc dmo hS => ?_)
          obtain ⟨v2, g2, em, hV2, hr2⟩ := hw
          rw [em] at hPm dmc dmo
          have dcm := dmc.symm
          obtain ⟨er, rg⟩ := det_through hn9 hr1 hr2
          rw [← rg] at hPm dcm dmo
          refine lv_icmp_eq (tgt := 821) hx hb dL_law_495 (by decide) (fun c_495 => ?_) (fun c_495 => absurd er c_495)
          refine lv_iinc (v := nI (4 * (i + 1))) (lv' := [(4, .int (nI (4 * (i + 1)))), (0, .ref b0), (1, .ref (h 0)), (2, .ref (ad 0)), (3, .ref o9)]) hx hb dL_law_821 hl (k := 4) rfl (by rw [show (4 * (i + 1)) = 4 * i + 4 by omega]; exact nI_add _ _) (by decide) rfl (fun ls hl => ?_)
          refine lv_goto (tgt := 23) hx hb dL_law_824 (by decide) ?_
          refine rw_cs (k := 15 + 8 * (i + 1)) (n := 8307 + 800 * (i + 1)) (by omega) (by omega) ?_
          exact ih (i + 1) b T n c1 g1 L X v2 M1 f9 (by omega) (by omega) ⟨hR1, hT, hn9, hs1, hV2, li_through_N hr1 hNx, li_through_9 hr1 h99⟩ H locs hPc hPm hPo dcm dco dmo hS ls (lv_sub hl [1, 2, 3, 4, 0] rfl)
        · subst ejw
          refine lv_tableIn (off := 461) (tgt := 500) hx hb dL_law_39 (by decide +kernel) (by decide +kernel) (by decide +kernel) (by decide) ?_
          refine lv_aload_n hx hb dL_law_500 rfl (lv_at hl 1 rfl) ?_
          refine lw_calli hPc hPm hPo dcm dco hS hA (va_runV (As := []) (rest := []) ⟨hx, hb, hml, hE.2.2.2.1, hE.2.2.1⟩ (tX3_text l D k _ _ h b T n c9 g L X  hR hT hn9 hs (h99 _ (Nat.le_refl _))) (cwV 0 hE.2.2.1 gL_law_X3_text rfl rfl rfl (by decide +kernel) ⟨(Nat.le_of_ble_eq_true rfl), (Nat.le_of_ble_eq_true rfl)⟩) (mw_preVN hE hPc (ci := 4) rfl rfl hR.1.1 hZN []) rfl rfl hl.1 rfl (lv_room (Nat.le_of_ble_eq_true rfl)) dL_law_501 ⟨lw_rc (by show 15 + 8 * i + 2 ≤ 600000; omega), lw_rs (by show 8307 + 800 * i + 42 ≤ 7000000; omega)⟩) (fun r1 M1 H locs hw hPc hPm hPo dcm dco hS => ?_)
          obtain ⟨b1, T1, n1, c1, L1, hR1, hT1, hs1, hr1⟩ := hw
          refine lv_aload_n hx hb dL_law_504 rfl (lv_at hl 2 rfl) ?_
          refine lw_calli hPm hPc hPo dcm.symm dmo hS hA (va_runV (As := []) (rest := [.int r1]) ⟨hx, hb, hml, hE.2.2.2.1, hE.2.2.1⟩ (tX4_text l D k _ _ ad v g n  hN hV hn9 rfl) (cwV 0 hE.2.2.1 gL_law_X4_text rfl rfl rfl (by decide +kernel) ⟨(Nat.le_of_ble_eq_true rfl), (Nat.le_of_ble_eq_true rfl)⟩) (mw_preV hE hPm (ci := 5) rfl rfl mo_o []) rfl rfl hl.1 rfl (lv_room (Nat.le_of_ble_eq_true rfl)) dL_law_505 ⟨lw_rc (by show 15 + 8 * i + 2 + 0 ≤ 600000; omega), lw_rs (by show 8307 + 800 * i + 42 + 0 ≤ 7000000; omega)⟩) (fun r2 M2 H locs hw hPm hPc hPo dmc dmo hS => ?_)
          obtain ⟨v2, n2, em, hV2, hr2⟩ := hw
          rw [em] at hPm dmc dmo
          have dcm := dmc.symm
          obtain ⟨er, rn⟩ := det_text hr1 hr2
          rw [← rn] at hV2
          refine lv_icmp_eq (tgt := 821) hx hb dL_law_508 (by decide) (fun c_508 => ?_) (fun c_508 => absurd er c_508)
          refine lv_iinc (v := nI (4 * (i + 1))) (lv' := [(4, .int (nI (4 * (i + 1)))), (0, .ref b0), (1, .ref (h 0)), (2, .ref (ad 0)), (3, .ref o9)]) hx hb dL_law_821 hl (k := 4) rfl (by rw [show (4 * (i + 1)) = 4 * i + 4 by omega]; exact nI_add _ _) (by decide) rfl (fun ls hl => ?_)
          refine lv_goto (tgt := 23) hx hb dL_law_824 (by decide) ?_
          refine rw_cs (k := 15 + 8 * (i + 1)) (n := 8307 + 800 * (i + 1)) (by omega) (by omega) ?_
          exact ih (i + 1) b1 T1 n1 c1 g L1 X v2 M1 f9 (by omega) (by omega) ⟨hR1, hT1, li_text_B hn9 hr1, hs1, hV2, li_text_N hr1 hNx, li_text_9 hr1 h99⟩ H locs hPc hPm hPo dcm dco dmo hS ls (lv_sub hl [1, 2, 3, 4, 0] rfl)
        · subst ejw
          refine lv_tableIn (off := 474) (tgt := 513) hx hb dL_law_39 (by decide +kernel) (by decide +kernel) (by decide +kernel) (by decide) ?_
          refine lv_aload_n hx hb dL_law_513 rfl (lv_at hl 1 rfl) ?_
          refine lv_aload_n hx hb dL_law_514 rfl (lv_at hl 0 rfl) ?_
          refine lv_iload hx hb dL_law_515 (lv_at hl 4 rfl) ?_
          refine lv_iconst (v := 1) hx hb dL_law_517 (by decide) ?_
          refine lv_iadd hx hb dL_law_518 ?_
          refine rw_i (v := nI ((4 * i) + 1)) (nI_1 _) ?_
          refine lw_sld hx hb hX9 hbl hbA hS (by omega) dL_law_519 (by omega) ?_
          refine lv_aload_n hx hb dL_law_520 rfl (lv_at hl 0 rfl) ?_
          refine lv_iload hx hb dL_law_521 (lv_at hl 4 rfl) ?_
          refine lv_iconst (v := nI 2) hx hb dL_law_523 (by decide) ?_
          refine lv_iadd hx hb dL_law_524 ?_
          refine rw_i (v := nI ((4 * i) + 2)) (nI_add _ _) ?_
          refine lw_sld hx hb hX9 hbl hbA hS (by omega) dL_law_525 (by omega) ?_
          refine lw_calli hPc hPm hPo dcm dco hS hA (va_runV (As := [.int (xs ((4 * i) + 1)), .int (xs ((4 * i) + 2))]) (rest := []) ⟨hx, hb, hml, hE.2.2.2.1, hE.2.2.1⟩ (tX3_sign l D k _ _ h b T n c9 g L X (xs ((4 * i) + 1)) (xs ((4 * i) + 2)) hR hT hn9 hs) (cwV 2 hE.2.2.1 gL_law_X3_sign rfl rfl rfl (by decide +kernel) ⟨(Nat.le_of_ble_eq_true rfl), (Nat.le_of_ble_eq_true rfl)⟩) (mw_preV hE hPc (ci := 4) rfl rfl hR.1.1 [.int (xs ((4 * i) + 1)), .int (xs ((4 * i) + 2))]) rfl rfl hl.1 rfl (lv_room (Nat.le_of_ble_eq_true rfl)) dL_law_526 ⟨lw_rc (by show 15 + 8 * i + 0 ≤ 600000; omega), lw_rs (by show 8307 + 800 * i + 0 ≤ 7000000; omega)⟩) (fun r1 M1 H locs hw hPc hPm hPo dcm dco hS => ?_)
          obtain ⟨c1, g1, L1, X1, hR1, hs1, hr1⟩ := hw
          refine lv_aload_n hx hb dL_law_529 rfl (lv_at hl 2 rfl) ?_
          refine lv_aload_n hx hb dL_law_530 rfl (lv_at hl 0 rfl) ?_
          refine lv_iload hx hb dL_law_531 (lv_at hl 4 rfl) ?_
          refine lv_iconst (v := 1) hx hb dL_law_533 (by decide) ?_
          refine lv_iadd hx hb dL_law_534 ?_
          refine rw_i (v := nI ((4 * i) + 1)) (nI_1 _) ?_
          refine lw_sld hx hb hX9 hbl hbA hS (by omega) dL_law_535 (by omega) ?_
          refine lv_aload_n hx hb dL_law_536 rfl (lv_at hl 0 rfl) ?_
          refine lv_iload hx hb dL_law_537 (lv_at hl 4 rfl) ?_
          refine lv_iconst (v := nI 2) hx hb dL_law_539 (by decide) ?_
          refine lv_iadd hx hb dL_law_540 ?_
          refine rw_i (v := nI ((4 * i) + 2)) (nI_add _ _) ?_
          refine lw_sld hx hb hX9 hbl hbA hS (by omega) dL_law_541 (by omega) ?_
          refine lw_calli hPm hPc hPo dcm.symm dmo hS hA (va_runV (As := [.int (xs ((4 * i) + 1)), .int (xs ((4 * i) + 2))]) (rest := [.int r1]) ⟨hx, hb, hml, hE.2.2.2.1, hE.2.2.1⟩ (tX4_sign l D k _ _ ad v g n L X (xs ((4 * i) + 1)) (xs ((4 * i) + 2)) hN hV hn9 rfl hs.2.2.2.1) (cwV 2 hE.2.2.1 gL_law_X4_sign rfl rfl rfl (by decide +kernel) ⟨(Nat.le_of_ble_eq_true rfl), (Nat.le_of_ble_eq_true rfl)⟩) (mw_preV hE hPm (ci := 5) rfl rfl mo_o [.int (xs ((4 * i) + 1)), .int (xs ((4 * i) + 2))]) rfl rfl hl.1 rfl (lv_room (Nat.le_of_ble_eq_true rfl)) dL_law_542 ⟨lw_rc (by show 15 + 8 * i + 0 ≤ 600000; omega), lw_rs (by show 8307 + 800 * i + 0 ≤ 7000000; omega)⟩) (fun r2 M2 H locs hw hPm hPc hPo dmc dmo hS => ?_)
          obtain ⟨v2, g2, em, hV2, hr2⟩ := hw
          rw [em] at hPm dmc dmo
          have dcm := dmc.symm
          obtain ⟨er, rg⟩ := det_sign hn9 hr1 hr2
          rw [← rg] at hPm dcm dmo
          refine lv_icmp_eq (tgt := 821) hx hb dL_law_545 (by decide) (fun c_545 => ?_) (fun c_545 => absurd er c_545)
          refine lv_iinc (v := nI (4 * (i + 1))) (lv' := [(4, .int (nI (4 * (i + 1)))), (0, .ref b0), (1, .ref (h 0)), (2, .ref (ad 0)), (3, .ref o9)]) hx hb dL_law_821 hl (k := 4) rfl (by rw [show (4 * (i + 1)) = 4 * i + 4 by omega]; exact nI_add _ _) (by decide) rfl (fun ls hl => ?_)
          refine lv_goto (tgt := 23) hx hb dL_law_824 (by decide) ?_
          refine rw_cs (k := 15 + 8 * (i + 1)) (n := 8307 + 800 * (i + 1)) (by omega) (by omega) ?_
          exact ih (i + 1) b T n c1 g1 L1 X1 v2 M1 f9 (by omega) (by omega) ⟨hR1, hT, hn9, hs1, hV2, li_sign_N hr1 hNx, li_sign_9 hr1 h99⟩ H locs hPc hPm hPo dcm dco dmo hS ls (lv_sub hl [1, 2, 3, 4, 0] rfl)
        · subst ejw
          refine lv_tableIn (off := 511) (tgt := 550) hx hb dL_law_39 (by decide +kernel) (by decide +kernel) (by decide +kernel) (by decide) ?_
          refine lv_aload_n hx hb dL_law_550 rfl (lv_at hl 1 rfl) ?_
          refine lv_aload_n hx hb dL_law_551 rfl (lv_at hl 0 rfl) ?_
          refine lv_iload hx hb dL_law_552 (lv_at hl 4 rfl) ?_
          refine lv_iconst (v := 1) hx hb dL_law_554 (by decide) ?_
          refine lv_iadd hx hb dL_law_555 ?_
          refine rw_i (v := nI ((4 * i) + 1)) (nI_1 _) ?_
          refine lw_sld hx hb hX9 hbl hbA hS (by omega) dL_law_556 (by omega) ?_
          refine lv_aload_n hx hb dL_law_557 rfl (lv_at hl 0 rfl) ?_
          refine lv_iload hx hb dL_law_558 (lv_at hl 4 rfl) ?_
          refine lv_iconst (v := nI 2) hx hb dL_law_560 (by decide) ?_
          refine lv_iadd hx hb dL_law_561 ?_
          refine rw_i (v := nI ((4 * i) + 2)) (nI_add _ _) ?_
          refine lw_sld hx hb hX9 hbl hbA hS (by omega) dL_law_562 (by omega) ?_
          refine lv_aload_n hx hb dL_law_563 rfl (lv_at hl 0 rfl) ?_
          refine lv_iload hx hb dL_law_564 (lv_at hl 4 rfl) ?_
          refine lv_iconst (v := nI 3) hx hb dL_law_566 (by decide) ?_
          refine lv_iadd hx hb dL_law_567 ?_
          refine rw_i (v := nI ((4 * i) + 3)) (nI_add _ _) ?_
          refine lw_sld hx hb hX9 hbl hbA hS (by omega) dL_law_568 (by omega) ?_
          refine lw_calli hPc hPm hPo dcm dco hS hA (va_runV (As := [.int (xs ((4 * i) + 1)), .int (xs ((4 * i) + 2)), .int (xs ((4 * i) + 3))]) (rest := []) ⟨hx, hb, hml, hE.2.2.2.1, hE.2.2.1⟩ (tX3_whole l D k _ _ h b T n c9 g L X (xs ((4 * i) + 1)) (xs ((4 * i) + 2)) (xs ((4 * i) + 3)) hR hT hn9 hs) (cwV 3 hE.2.2.1 gL_law_X3_whole rfl rfl rfl (by decide +kernel) ⟨(Nat.le_of_ble_eq_true rfl), (Nat.le_of_ble_eq_true rfl)⟩) (mw_preV hE hPc (ci := 4) rfl rfl hR.1.1 [.int (xs ((4 * i) + 1)), .int (xs ((4 * i) + 2)), .int (xs ((4 * i) + 3))]) rfl rfl hl.1 rfl (lv_room (Nat.le_of_ble_eq_true rfl)) dL_law_569 ⟨lw_rc (by show 15 + 8 * i + 0 ≤ 600000; omega), lw_rs (by show 8307 + 800 * i + 0 ≤ 7000000; omega)⟩) (fun r1 M1 H locs hw hPc hPm hPo dcm dco hS => ?_)
          obtain ⟨n1, c1, g1, X1, hR1, hs1, hr1⟩ := hw
          refine lv_aload_n hx hb dL_law_572 rfl (lv_at hl 2 rfl) ?_
          refine lv_aload_n hx hb dL_law_573 rfl (lv_at hl 0 rfl) ?_
          refine lv_iload hx hb dL_law_574 (lv_at hl 4 rfl) ?_
          refine lv_iconst (v := 1) hx hb dL_law_576 (by decide) ?_
          refine lv_iadd hx hb dL_law_577 ?_
          refine rw_i (v := nI ((4 * i) + 1)) (nI_1 _) ?_
          refine lw_sld hx hb hX9 hbl hbA hS (by omega) dL_law_578 (by omega) ?_
          refine lv_aload_n hx hb dL_law_579 rfl (lv_at hl 0 rfl) ?_
          refine lv_iload hx hb dL_law_580 (lv_at hl 4 rfl) ?_
          refine lv_iconst (v := nI 2) hx hb dL_law_582 (by decide) ?_
          refine lv_iadd hx hb dL_law_583 ?_
          refine rw_i (v := nI ((4 * i) + 2)) (nI_add _ _) ?_
          refine lw_sld hx hb hX9 hbl hbA hS (by omega) dL_law_584 (by omega) ?_
          refine lv_aload_n hx hb dL_law_585 rfl (lv_at hl 0 rfl) ?_
          refine lv_iload hx hb dL_law_586 (lv_at hl 4 rfl) ?_
          refine lv_iconst (v := nI 3) hx hb dL_law_588 (by decide) ?_
          refine lv_iadd hx hb dL_law_589 ?_
          refine rw_i (v := nI ((4 * i) + 3)) (nI_add _ _) ?_
          refine lw_sld hx hb hX9 hbl hbA hS (by omega) dL_law_590 (by omega) ?_
          refine lw_calli hPm hPc hPo dcm.symm dmo hS hA (va_runV (As := [.int (xs ((4 * i) + 1)), .int (xs ((4 * i) + 2)), .int (xs ((4 * i) + 3))]) (rest := [.int r1]) ⟨hx, hb, hml, hE.2.2.2.1, hE.2.2.1⟩ (tX4_whole l D k _ _ ad v g n L X (xs ((4 * i) + 1)) (xs ((4 * i) + 2)) (xs ((4 * i) + 3)) hN hV hn9 rfl hs.2.2.2.1) (cwV 3 hE.2.2.1 gL_law_X4_whole rfl rfl rfl (by decide +kernel) ⟨(Nat.le_of_ble_eq_true rfl), (Nat.le_of_ble_eq_true rfl)⟩) (mw_preV hE hPm (ci := 5) rfl rfl mo_o [.int (xs ((4 * i) + 1)), .int (xs ((4 * i) + 2)), .int (xs ((4 * i) + 3))]) rfl rfl hl.1 rfl (lv_room (Nat.le_of_ble_eq_true rfl)) dL_law_591 ⟨lw_rc (by show 15 + 8 * i + 0 ≤ 600000; omega), lw_rs (by show 8307 + 800 * i + 0 ≤ 7000000; omega)⟩) (fun r2 M2 H locs hw hPm hPc hPo dmc dmo hS => ?_)
          obtain ⟨v2, g2, n2, em, hV2, hr2⟩ := hw
          rw [em] at hPm dmc dmo
          have dcm := dmc.symm
          obtain ⟨er, rn, rg⟩ := det_whole hn9 hr1 hr2
          rw [← rg] at hPm dcm dmo
          rw [← rn] at hV2
          refine lv_icmp_eq (tgt := 821) hx hb dL_law_594 (by decide) (fun c_594 => ?_) (fun c_594 => absurd er c_594)
          refine lv_iinc (v := nI (4 * (i + 1))) (lv' := [(4, .int (nI (4 * (i + 1)))), (0, .ref b0), (1, .ref (h 0)), (2, .ref (ad 0)), (3, .ref o9)]) hx hb dL_law_821 hl (k := 4) rfl (by rw [show (4 * (i + 1)) = 4 * i + 4 by omega]; exact nI_add _ _) (by decide) rfl (fun ls hl => ?_)
          refine lv_goto (tgt := 23) hx hb dL_law_824 (by decide) ?_
          refine rw_cs (k := 15 + 8 * (i + 1)) (n := 8307 + 800 * (i + 1)) (by omega) (by omega) ?_
          exact ih (i + 1) b T n1 c1 g1 L X1 v2 M1 f9 (by omega) (by omega) ⟨hR1, cp_Tn hT (li_whole_n hr1 (by decide)) (li_whole_n hr1 (by decide)) (li_whole_n hr1 (by decide)), li_whole_B hn9 hr1, hs1, hV2, li_whole_N hr1 hNx, li_whole_9 hr1 h99⟩ H locs hPc hPm hPo dcm dco dmo hS ls (lv_sub hl [1, 2, 3, 4, 0] rfl)
        · subst ejw
          refine lv_tableIn (off := 560) (tgt := 599) hx hb dL_law_39 (by decide +kernel) (by decide +kernel) (by decide +kernel) (by decide) ?_
          refine lv_aload_n hx hb dL_law_599 rfl (lv_at hl 1 rfl) ?_
          refine lv_aload_n hx hb dL_law_600 rfl (lv_at hl 0 rfl) ?_
          refine lv_iload hx hb dL_law_601 (lv_at hl 4 rfl) ?_
          refine lv_iconst (v := 1) hx hb dL_law_603 (by decide) ?_
          refine lv_iadd hx hb dL_law_604 ?_
          refine rw_i (v := nI ((4 * i) + 1)) (nI_1 _) ?_
          refine lw_sld hx hb hX9 hbl hbA hS (by omega) dL_law_605 (by omega) ?_
          refine lv_aload_n hx hb dL_law_606 rfl (lv_at hl 0 rfl) ?_
          refine lv_iload hx hb dL_law_607 (lv_at hl 4 rfl) ?_
          refine lv_iconst (v := nI 2) hx hb dL_law_609 (by decide) ?_
          refine lv_iadd hx hb dL_law_610 ?_
          refine rw_i (v := nI ((4 * i) + 2)) (nI_add _ _) ?_
          refine lw_sld hx hb hX9 hbl hbA hS (by omega) dL_law_611 (by omega) ?_
          refine lw_calli hPc hPm hPo dcm dco hS hA (va_runV (As := [.int (xs ((4 * i) + 1)), .int (xs ((4 * i) + 2))]) (rest := []) ⟨hx, hb, hml, hE.2.2.2.1, hE.2.2.1⟩ (tX3_at l D k _ _ h b T n c9 g L X (xs ((4 * i) + 1)) (xs ((4 * i) + 2)) hR hT hn9 hs) (cwV 2 hE.2.2.1 gL_law_X3_at rfl rfl rfl (by decide +kernel) ⟨(Nat.le_of_ble_eq_true rfl), (Nat.le_of_ble_eq_true rfl)⟩) (mw_preV hE hPc (ci := 4) rfl rfl hR.1.1 [.int (xs ((4 * i) + 1)), .int (xs ((4 * i) + 2))]) rfl rfl hl.1 rfl (lv_room (Nat.le_of_ble_eq_true rfl)) dL_law_612 ⟨lw_rc (by show 15 + 8 * i + 0 ≤ 600000; omega), lw_rs (by show 8307 + 800 * i + 0 ≤ 7000000; omega)⟩) (fun r1 M1 H locs hw hPc hPm hPo dcm dco hS => ?_)
          obtain ⟨hM1, hr1⟩ := hw
          rw [hM1] at hPc dcm dco
          refine lv_aload_n hx hb dL_law_615 rfl (lv_at hl 2 rfl) ?_
          refine lv_aload_n hx hb dL_law_616 rfl (lv_at hl 0 rfl) ?_
          refine lv_iload hx hb dL_law_617 (lv_at hl 4 rfl) ?_
          refine lv_iconst (v := 1) hx hb dL_law_619 (by decide) ?_
          refine lv_iadd hx hb dL_law_620 ?_
          refine rw_i (v := nI ((4 * i) + 1)) (nI_1 _) ?_
          refine lw_sld hx hb hX9 hbl hbA hS (by omega) dL_law_621 (by omega) ?_
          refine lv_aload_n hx hb dL_law_622 rfl (lv_at hl 0 rfl) ?_
          refine lv_iload hx hb dL_law_623 (lv_at hl 4 rfl) ?_
          refine lv_iconst (v := nI 2) hx hb dL_law_625 (by decide) ?_
          refine lv_iadd hx hb dL_law_626 ?_
          refine rw_i (v := nI ((4 * i) + 2)) (nI_add _ _) ?_
          refine lw_sld hx hb hX9 hbl hbA hS (by omega) dL_law_627 (by omega) ?_
          refine lw_calli hPm hPc hPo dcm.symm dmo hS hA (va_runV (As := [.int (xs ((4 * i) + 1)), .int (xs ((4 * i) + 2))]) (rest := [.int r1]) ⟨hx, hb, hml, hE.2.2.2.1, hE.2.2.1⟩ (tX4_at l D k _ _ ad v g n L X (xs ((4 * i) + 1)) (xs ((4 * i) + 2)) hN hV hn9 rfl hs.2.2.2.1) (cwV 2 hE.2.2.1 gL_law_X4_at rfl rfl rfl (by decide +kernel) ⟨(Nat.le_of_ble_eq_true rfl), (Nat.le_of_ble_eq_true rfl)⟩) (mw_preV hE hPm (ci := 5) rfl rfl mo_o [.int (xs ((4 * i) + 1)), .int (xs ((4 * i) + 2))]) rfl rfl hl.1 rfl (lv_room (Nat.le_of_ble_eq_true rfl)) dL_law_628 ⟨lw_rc (by show 15 + 8 * i + 0 ≤ 600000; omega), lw_rs (by show 8307 + 800 * i + 0 ≤ 7000000; omega)⟩) (fun r2 M2 H locs hw hPm hPc hPo dmc dmo hS => ?_)
          obtain ⟨v2, em, hV2, hr2⟩ := hw
          rw [em] at hPm dmc dmo
          have dcm := dmc.symm
          have er := det_at hn9 (fun t ht => (hs.2.2.2.1 t ht).1) hr1 hr2
          refine lv_icmp_eq (tgt := 821) hx hb dL_law_631 (by decide) (fun c_631 => ?_) (fun c_631 => absurd er c_631)
          refine lv_iinc (v := nI (4 * (i + 1))) (lv' := [(4, .int (nI (4 * (i + 1)))), (0, .ref b0), (1, .ref (h 0)), (2, .ref (ad 0)), (3, .ref o9)]) hx hb dL_law_821 hl (k := 4) rfl (by rw [show (4 * (i + 1)) = 4 * i + 4 by omega]; exact nI_add _ _) (by decide) rfl (fun ls hl => ?_)
          refine lv_goto (tgt := 23) hx hb dL_law_824 (by decide) ?_
          refine rw_cs (k := 15 + 8 * (i + 1)) (n := 8307 + 800 * (i + 1)) (by omega) (by omega) ?_
          exact ih (i + 1) b T n c9 g L X v2 Mc f9 (by omega) (by omega) ⟨hR, hT, hn9, hs, hV2, hNx.up, h99⟩ H locs hPc hPm hPo dcm dco dmo hS ls (lv_sub hl [1, 2, 3, 4, 0] rfl)
        · subst ejw
          refine lv_tableIn (off := 597) (tgt := 636) hx hb dL_law_39 (by decide +kernel) (by decide +kernel) (by decide +kernel) (by decide) ?_
          refine lv_aload_n hx hb dL_law_636 rfl (lv_at hl 1 rfl) ?_
          refine lv_aload_n hx hb dL_law_637 rfl (lv_at hl 0 rfl) ?_
          refine lv_iload hx hb dL_law_638 (lv_at hl 4 rfl) ?_
          refine lv_iconst (v := 1) hx hb dL_law_640 (by decide) ?_
          refine lv_iadd hx hb dL_law_641 ?_
          refine rw_i (v := nI ((4 * i) + 1)) (nI_1 _) ?_
          refine lw_sld hx hb hX9 hbl hbA hS (by omega) dL_law_642 (by omega) ?_
          refine lv_aload_n hx hb dL_law_643 rfl (lv_at hl 0 rfl) ?_
          refine lv_iload hx hb dL_law_644 (lv_at hl 4 rfl) ?_
          refine lv_iconst (v := nI 2) hx hb dL_law_646 (by decide) ?_
          refine lv_iadd hx hb dL_law_647 ?_
          refine rw_i (v := nI ((4 * i) + 2)) (nI_add _ _) ?_
          refine lw_sld hx hb hX9 hbl hbA hS (by omega) dL_law_648 (by omega) ?_
          refine lv_aload_n hx hb dL_law_649 rfl (lv_at hl 0 rfl) ?_
          refine lv_iload hx hb dL_law_650 (lv_at hl 4 rfl) ?_
          refine lv_iconst (v := nI 3) hx hb dL_law_652 (by decide) ?_
          refine lv_iadd hx hb dL_law_653 ?_
          refine rw_i (v := nI ((4 * i) + 3)) (nI_add _ _) ?_
          refine lw_sld hx hb hX9 hbl hbA hS (by omega) dL_law_654 (by omega) ?_
          refine lw_calli hPc hPm hPo dcm dco hS hA (va_runV (As := [.int (xs ((4 * i) + 1)), .int (xs ((4 * i) + 2)), .int (xs ((4 * i) + 3))]) (rest := []) ⟨hx, hb, hml, hE.2.2.2.1, hE.2.2.1⟩ (tX3_compare l D k _ _ h b T n c9 g L X (xs ((4 * i) + 1)) (xs ((4 * i) + 2)) (xs ((4 * i) + 3)) hR hT hn9 hs) (cwV 3 hE.2.2.1 gL_law_X3_compare rfl rfl rfl (by decide +kernel) ⟨(Nat.le_of_ble_eq_true rfl), (Nat.le_of_ble_eq_true rfl)⟩) (mw_preV hE hPc (ci := 4) rfl rfl hR.1.1 [.int (xs ((4 * i) + 1)), .int (xs ((4 * i) + 2)), .int (xs ((4 * i) + 3))]) rfl rfl hl.1 rfl (lv_room (Nat.le_of_ble_eq_true rfl)) dL_law_655 ⟨lw_rc (by show 15 + 8 * i + 0 ≤ 600000; omega), lw_rs (by show 8307 + 800 * i + 0 ≤ 7000000; omega)⟩) (fun r1 M1 H locs hw hPc hPm hPo dcm dco hS => ?_)
          obtain ⟨hM1, hr1⟩ := hw
          rw [hM1] at hPc dcm dco
          refine lv_aload_n hx hb dL_law_658 rfl (lv_at hl 2 rfl) ?_
          refine lv_aload_n hx hb dL_law_659 rfl (lv_at hl 0 rfl) ?_
          refine lv_iload hx hb dL_law_660 (lv_at hl 4 rfl) ?_
          refine lv_iconst (v := 1) hx hb dL_law_662 (by decide) ?_
          refine lv_iadd hx hb dL_law_663 ?_
          refine rw_i (v := nI ((4 * i) + 1)) (nI_1 _) ?_
          refine lw_sld hx hb hX9 hbl hbA hS (by omega) dL_law_664 (by omega) ?_
          refine lv_aload_n hx hb dL_law_665 rfl (lv_at hl 0 rfl) ?_
          refine lv_iload hx hb dL_law_666 (lv_at hl 4 rfl) ?_
          refine lv_iconst (v := nI 2) hx hb dL_law_668 (by decide) ?_
          refine lv_iadd hx hb dL_law_669 ?_
          refine rw_i (v := nI ((4 * i) + 2)) (nI_add _ _) ?_
          refine lw_sld hx hb hX9 hbl hbA hS (by omega) dL_law_670 (by omega) ?_
          refine lv_aload_n hx hb dL_law_671 rfl (lv_at hl 0 rfl) ?_
          refine lv_iload hx hb dL_law_672 (lv_at hl 4 rfl) ?_
          refine lv_iconst (v := nI 3) hx hb dL_law_674 (by decide) ?_
          refine lv_iadd hx hb dL_law_675 ?_
          refine rw_i (v := nI ((4 * i) + 3)) (nI_add _ _) ?_
          refine lw_sld hx hb hX9 hbl hbA hS (by omega) dL_law_676 (by omega) ?_
          refine lw_calli hPm hPc hPo dcm.symm dmo hS hA (va_runV (As := [.int (xs ((4 * i) + 1)), .int (xs ((4 * i) + 2)), .int (xs ((4 * i) + 3))]) (rest := [.int r1]) ⟨hx, hb, hml, hE.2.2.2.1, hE.2.2.1⟩ (tX4_compare l D k _ _ ad v g n L X (xs ((4 * i) + 1)) (xs ((4 * i) + 2)) (xs ((4 * i) + 3)) hN hV hn9 rfl hs.2.2.2.1) (cwV 3 hE.2.2.1 gL_law_X4_compare rfl rfl rfl (by decide +kernel) ⟨(Nat.le_of_ble_eq_true rfl), (Nat.le_of_ble_eq_true rfl)⟩) (mw_preV hE hPm (ci := 5) rfl rfl mo_o [.int (xs ((4 * i) + 1)), .int (xs ((4 * i) + 2)), .int (xs ((4 * i) + 3))]) rfl rfl hl.1 rfl (lv_room (Nat.le_of_ble_eq_true rfl)) dL_law_677 ⟨lw_rc (by show 15 + 8 * i + 0 ≤ 600000; omega), lw_rs (by show 8307 + 800 * i + 0 ≤ 7000000; omega)⟩) (fun r2 M2 H locs hw hPm hPc hPo dmc dmo hS => ?_)
          obtain ⟨v2, em, hV2, hr2⟩ := hw
          rw [em] at hPm dmc dmo
          have dcm := dmc.symm
          have er := det_compare hn9 hr1 hr2
          refine lv_icmp_eq (tgt := 821) hx hb dL_law_680 (by decide) (fun c_680 => ?_) (fun c_680 => absurd er c_680)
          refine lv_iinc (v := nI (4 * (i + 1))) (lv' := [(4, .int (nI (4 * (i + 1)))), (0, .ref b0), (1, .ref (h 0)), (2, .ref (ad 0)), (3, .ref o9)]) hx hb dL_law_821 hl (k := 4) rfl (by rw [show (4 * (i + 1)) = 4 * i + 4 by omega]; exact nI_add _ _) (by decide) rfl (fun ls hl => ?_)
          refine lv_goto (tgt := 23) hx hb dL_law_824 (by decide) ?_
          refine rw_cs (k := 15 + 8 * (i + 1)) (n := 8307 + 800 * (i + 1)) (by omega) (by omega) ?_
          exact ih (i + 1) b T n c9 g L X v2 Mc f9 (by omega) (by omega) ⟨hR, hT, hn9, hs, hV2, hNx.up, h99⟩ H locs hPc hPm hPo dcm dco dmo hS ls (lv_sub hl [1, 2, 3, 4, 0] rfl)
        · subst ejw
          refine lv_tableIn (off := 646) (tgt := 685) hx hb dL_law_39 (by decide +kernel) (by decide +kernel) (by decide +kernel) (by decide) ?_
          refine lv_aload_n hx hb dL_law_685 rfl (lv_at hl 1 rfl) ?_
          refine lv_aload_n hx hb dL_law_686 rfl (lv_at hl 0 rfl) ?_
          refine lv_iload hx hb dL_law_687 (lv_at hl 4 rfl) ?_
          refine lv_iconst (v := 1) hx hb dL_law_689 (by decide) ?_
          refine lv_iadd hx hb dL_law_690 ?_
          refine rw_i (v := nI ((4 * i) + 1)) (nI_1 _) ?_
          refine lw_sld hx hb hX9 hbl hbA hS (by omega) dL_law_691 (by omega) ?_
          refine lv_aload_n hx hb dL_law_692 rfl (lv_at hl 0 rfl) ?_
          refine lv_iload hx hb dL_law_693 (lv_at hl 4 rfl) ?_
          refine lv_iconst (v := nI 2) hx hb dL_law_695 (by decide) ?_
          refine lv_iadd hx hb dL_law_696 ?_
          refine rw_i (v := nI ((4 * i) + 2)) (nI_add _ _) ?_
          refine lw_sld hx hb hX9 hbl hbA hS (by omega) dL_law_697 (by omega) ?_
          refine lw_calli hPc hPm hPo dcm dco hS hA (va_runV (As := [.int (xs ((4 * i) + 1)), .int (xs ((4 * i) + 2))]) (rest := []) ⟨hx, hb, hml, hE.2.2.2.1, hE.2.2.1⟩ (tX3_cls l D k _ _ h b T n c9 g L X (xs ((4 * i) + 1)) (xs ((4 * i) + 2)) hR hT hn9 hs) (cwV 2 hE.2.2.1 gL_law_X3_cls rfl rfl rfl (by decide +kernel) ⟨(Nat.le_of_ble_eq_true rfl), (Nat.le_of_ble_eq_true rfl)⟩) (mw_preV hE hPc (ci := 4) rfl rfl hR.1.1 [.int (xs ((4 * i) + 1)), .int (xs ((4 * i) + 2))]) rfl rfl hl.1 rfl (lv_room (Nat.le_of_ble_eq_true rfl)) dL_law_698 ⟨lw_rc (by show 15 + 8 * i + 0 ≤ 600000; omega), lw_rs (by show 8307 + 800 * i + 0 ≤ 7000000; omega)⟩) (fun r1 M1 H locs hw hPc hPm hPo dcm dco hS => ?_)
          obtain ⟨hM1, hr1⟩ := hw
          rw [hM1] at hPc dcm dco
          refine lv_aload_n hx hb dL_law_701 rfl (lv_at hl 2 rfl) ?_
          refine lv_aload_n hx hb dL_law_702 rfl (lv_at hl 0 rfl) ?_
          refine lv_iload hx hb dL_law_703 (lv_at hl 4 rfl) ?_
          refine lv_iconst (v := 1) hx hb dL_law_705 (by decide) ?_
          refine lv_iadd hx hb dL_law_706 ?_
          refine rw_i (v := nI ((4 * i) + 1)) (nI_1 _) ?_
          refine lw_sld hx hb hX9 hbl hbA hS (by omega) dL_law_707 (by omega) ?_
          refine lv_aload_n hx hb dL_law_708 rfl (lv_at hl 0 rfl) ?_
          refine lv_iload hx hb dL_law_709 (lv_at hl 4 rfl) ?_
          refine lv_iconst (v := nI 2) hx hb dL_law_711 (by decide) ?_
          refine lv_iadd hx hb dL_law_712 ?_
          refine rw_i (v := nI ((4 * i) + 2)) (nI_add _ _) ?_
          refine lw_sld hx hb hX9 hbl hbA hS (by omega) dL_law_713 (by omega) ?_
          refine lw_calli hPm hPc hPo dcm.symm dmo hS hA (va_runV (As := [.int (xs ((4 * i) + 1)), .int (xs ((4 * i) + 2))]) (rest := [.int r1]) ⟨hx, hb, hml, hE.2.2.2.1, hE.2.2.1⟩ (tX4_cls l D k _ _ ad v g n (xs ((4 * i) + 1)) (xs ((4 * i) + 2)) hN hV hn9 rfl) (cwV 2 hE.2.2.1 gL_law_X4_cls rfl rfl rfl (by decide +kernel) ⟨(Nat.le_of_ble_eq_true rfl), (Nat.le_of_ble_eq_true rfl)⟩) (mw_preV hE hPm (ci := 5) rfl rfl mo_o [.int (xs ((4 * i) + 1)), .int (xs ((4 * i) + 2))]) rfl rfl hl.1 rfl (lv_room (Nat.le_of_ble_eq_true rfl)) dL_law_714 ⟨lw_rc (by show 15 + 8 * i + 0 ≤ 600000; omega), lw_rs (by show 8307 + 800 * i + 0 ≤ 7000000; omega)⟩) (fun r2 M2 H locs hw hPm hPc hPo dmc dmo hS => ?_)
          obtain ⟨v2, em, hV2, hr2⟩ := hw
          rw [em] at hPm dmc dmo
          have dcm := dmc.symm
          have er := det_cls hr1 hr2
          refine lv_icmp_eq (tgt := 821) hx hb dL_law_717 (by decide) (fun c_717 => ?_) (fun c_717 => absurd er c_717)
          refine lv_iinc (v := nI (4 * (i + 1))) (lv' := [(4, .int (nI (4 * (i + 1)))), (0, .ref b0), (1, .ref (h 0)), (2, .ref (ad 0)), (3, .ref o9)]) hx hb dL_law_821 hl (k := 4) rfl (by rw [show (4 * (i + 1)) = 4 * i + 4 by omega]; exact nI_add _ _) (by decide) rfl (fun ls hl => ?_)
          refine lv_goto (tgt := 23) hx hb dL_law_824 (by decide) ?_
          refine rw_cs (k := 15 + 8 * (i + 1)) (n := 8307 + 800 * (i + 1)) (by omega) (by omega) ?_
          exact ih (i + 1) b T n c9 g L X v2 Mc f9 (by omega) (by omega) ⟨hR, hT, hn9, hs, hV2, hNx.up, h99⟩ H locs hPc hPm hPo dcm dco dmo hS ls (lv_sub hl [1, 2, 3, 4, 0] rfl)
        · subst ejw
          refine lv_tableIn (off := 683) (tgt := 722) hx hb dL_law_39 (by decide +kernel) (by decide +kernel) (by decide +kernel) (by decide) ?_
          refine lv_aload_n hx hb dL_law_722 rfl (lv_at hl 1 rfl) ?_
          refine lv_aload_n hx hb dL_law_723 rfl (lv_at hl 0 rfl) ?_
          refine lv_iload hx hb dL_law_724 (lv_at hl 4 rfl) ?_
          refine lv_iconst (v := 1) hx hb dL_law_726 (by decide) ?_
          refine lv_iadd hx hb dL_law_727 ?_
          refine rw_i (v := nI ((4 * i) + 1)) (nI_1 _) ?_
          refine lw_sld hx hb hX9 hbl hbA hS (by omega) dL_law_728 (by omega) ?_
          refine lv_aload_n hx hb dL_law_729 rfl (lv_at hl 0 rfl) ?_
          refine lv_iload hx hb dL_law_730 (lv_at hl 4 rfl) ?_
          refine lv_iconst (v := nI 2) hx hb dL_law_732 (by decide) ?_
          refine lv_iadd hx hb dL_law_733 ?_
          refine rw_i (v := nI ((4 * i) + 2)) (nI_add _ _) ?_
          refine lw_sld hx hb hX9 hbl hbA hS (by omega) dL_law_734 (by omega) ?_
          refine lw_calli hPc hPm hPo dcm dco hS hA (va_runV (As := [.int (xs ((4 * i) + 1)), .int (xs ((4 * i) + 2))]) (rest := []) ⟨hx, hb, hml, hE.2.2.2.1, hE.2.2.1⟩ (tX3_print l D k _ _ h b T n c9 g L X (xs ((4 * i) + 1)) (xs ((4 * i) + 2)) hR hT hn9 hs) (cwV 2 hE.2.2.1 gL_law_X3_print rfl rfl rfl (by decide +kernel) ⟨(Nat.le_of_ble_eq_true rfl), (Nat.le_of_ble_eq_true rfl)⟩) (mw_preV hE hPc (ci := 4) rfl rfl hR.1.1 [.int (xs ((4 * i) + 1)), .int (xs ((4 * i) + 2))]) rfl rfl hl.1 rfl (lv_room (Nat.le_of_ble_eq_true rfl)) dL_law_735 ⟨lw_rc (by show 15 + 8 * i + 0 ≤ 600000; omega), lw_rs (by show 8307 + 800 * i + 0 ≤ 7000000; omega)⟩) (fun r1 M1 H locs hw hPc hPm hPo dcm dco hS => ?_)
          obtain ⟨hM1, hr1⟩ := hw
          rw [hM1] at hPc dcm dco
          refine lv_aload_n hx hb dL_law_738 rfl (lv_at hl 2 rfl) ?_
          refine lv_aload_n hx hb dL_law_739 rfl (lv_at hl 0 rfl) ?_
          refine lv_iload hx hb dL_law_740 (lv_at hl 4 rfl) ?_
          refine lv_iconst (v := 1) hx hb dL_law_742 (by decide) ?_
          refine lv_iadd hx hb dL_law_743 ?_
          refine rw_i (v := nI ((4 * i) + 1)) (nI_1 _) ?_
          refine lw_sld hx hb hX9 hbl hbA hS (by omega) dL_law_744 (by omega) ?_
          refine lv_aload_n hx hb dL_law_745 rfl (lv_at hl 0 rfl) ?_
          refine lv_iload hx hb dL_law_746 (lv_at hl 4 rfl) ?_
          refine lv_iconst (v := nI 2) hx hb dL_law_748 (by decide) ?_
          refine lv_iadd hx hb dL_law_749 ?_
          refine rw_i (v := nI ((4 * i) + 2)) (nI_add _ _) ?_
          refine lw_sld hx hb hX9 hbl hbA hS (by omega) dL_law_750 (by omega) ?_
          refine lw_calli hPm hPc hPo dcm.symm dmo hS hA (va_runV (As := [.int (xs ((4 * i) + 1)), .int (xs ((4 * i) + 2))]) (rest := [.int r1]) ⟨hx, hb, hml, hE.2.2.2.1, hE.2.2.1⟩ (tX4_print l D k _ _ ad v g n (xs ((4 * i) + 1)) (xs ((4 * i) + 2)) hN hV hn9 rfl) (cwV 2 hE.2.2.1 gL_law_X4_print rfl rfl rfl (by decide +kernel) ⟨(Nat.le_of_ble_eq_true rfl), (Nat.le_of_ble_eq_true rfl)⟩) (mw_preV hE hPm (ci := 5) rfl rfl mo_o [.int (xs ((4 * i) + 1)), .int (xs ((4 * i) + 2))]) rfl rfl hl.1 rfl (lv_room (Nat.le_of_ble_eq_true rfl)) dL_law_751 ⟨lw_rc (by show 15 + 8 * i + 0 ≤ 600000; omega), lw_rs (by show 8307 + 800 * i + 0 ≤ 7000000; omega)⟩) (fun r2 M2 H locs hw hPm hPc hPo dmc dmo hS => ?_)
          obtain ⟨v2, em, hV2, hr2⟩ := hw
          rw [em] at hPm dmc dmo
          have dcm := dmc.symm
          have er := det_print hr1 hr2
          refine lv_icmp_eq (tgt := 821) hx hb dL_law_754 (by decide) (fun c_754 => ?_) (fun c_754 => absurd er c_754)
          refine lv_iinc (v := nI (4 * (i + 1))) (lv' := [(4, .int (nI (4 * (i + 1)))), (0, .ref b0), (1, .ref (h 0)), (2, .ref (ad 0)), (3, .ref o9)]) hx hb dL_law_821 hl (k := 4) rfl (by rw [show (4 * (i + 1)) = 4 * i + 4 by omega]; exact nI_add _ _) (by decide) rfl (fun ls hl => ?_)
          refine lv_goto (tgt := 23) hx hb dL_law_824 (by decide) ?_
          refine rw_cs (k := 15 + 8 * (i + 1)) (n := 8307 + 800 * (i + 1)) (by omega) (by omega) ?_
          exact ih (i + 1) b T n c9 g L X v2 Mc f9 (by omega) (by omega) ⟨hR, hT, hn9, hs, hV2, hNx.up, h99⟩ H locs hPc hPm hPo dcm dco dmo hS ls (lv_sub hl [1, 2, 3, 4, 0] rfl)
        · subst ejw
          refine lv_tableIn (off := 720) (tgt := 759) hx hb dL_law_39 (by decide +kernel) (by decide +kernel) (by decide +kernel) (by decide) ?_
          refine lv_aload_n hx hb dL_law_759 rfl (lv_at hl 1 rfl) ?_
          refine lv_aload_n hx hb dL_law_760 rfl (lv_at hl 0 rfl) ?_
          refine lv_iload hx hb dL_law_761 (lv_at hl 4 rfl) ?_
          refine lv_iconst (v := 1) hx hb dL_law_763 (by decide) ?_
          refine lv_iadd hx hb dL_law_764 ?_
          refine rw_i (v := nI ((4 * i) + 1)) (nI_1 _) ?_
          refine lw_sld hx hb hX9 hbl hbA hS (by omega) dL_law_765 (by omega) ?_
          refine lw_calli hPc hPm hPo dcm dco hS hA (va_runV (As := [.int (xs ((4 * i) + 1))]) (rest := []) ⟨hx, hb, hml, hE.2.2.2.1, hE.2.2.1⟩ (tX3_high l D k _ _ h b T n c9 g L X (xs ((4 * i) + 1)) hR hT hn9 hs) (cwV 1 hE.2.2.1 gL_law_X3_high rfl rfl rfl (by decide +kernel) ⟨(Nat.le_of_ble_eq_true rfl), (Nat.le_of_ble_eq_true rfl)⟩) (mw_preV hE hPc (ci := 4) rfl rfl hR.1.1 [.int (xs ((4 * i) + 1))]) rfl rfl hl.1 rfl (lv_room (Nat.le_of_ble_eq_true rfl)) dL_law_766 ⟨lw_rc (by show 15 + 8 * i + 0 ≤ 600000; omega), lw_rs (by show 8307 + 800 * i + 0 ≤ 7000000; omega)⟩) (fun r1 M1 H locs hw hPc hPm hPo dcm dco hS => ?_)
          obtain ⟨hM1, hr1⟩ := hw
          rw [hM1] at hPc dcm dco
          refine lv_aload_n hx hb dL_law_769 rfl (lv_at hl 2 rfl) ?_
          refine lv_aload_n hx hb dL_law_770 rfl (lv_at hl 0 rfl) ?_
          refine lv_iload hx hb dL_law_771 (lv_at hl 4 rfl) ?_
          refine lv_iconst (v := 1) hx hb dL_law_773 (by decide) ?_
          refine lv_iadd hx hb dL_law_774 ?_
          refine rw_i (v := nI ((4 * i) + 1)) (nI_1 _) ?_
          refine lw_sld hx hb hX9 hbl hbA hS (by omega) dL_law_775 (by omega) ?_
          refine lw_calli hPm hPc hPo dcm.symm dmo hS hA (va_runV (As := [.int (xs ((4 * i) + 1))]) (rest := [.int r1]) ⟨hx, hb, hml, hE.2.2.2.1, hE.2.2.1⟩ (tX4_high l D k _ _ ad v g n (xs ((4 * i) + 1)) hN hV hn9 rfl) (cwV 1 hE.2.2.1 gL_law_X4_high rfl rfl rfl (by decide +kernel) ⟨(Nat.le_of_ble_eq_true rfl), (Nat.le_of_ble_eq_true rfl)⟩) (mw_preV hE hPm (ci := 5) rfl rfl mo_o [.int (xs ((4 * i) + 1))]) rfl rfl hl.1 rfl (lv_room (Nat.le_of_ble_eq_true rfl)) dL_law_776 ⟨lw_rc (by show 15 + 8 * i + 0 ≤ 600000; omega), lw_rs (by show 8307 + 800 * i + 0 ≤ 7000000; omega)⟩) (fun r2 M2 H locs hw hPm hPc hPo dmc dmo hS => ?_)
          obtain ⟨v2, em, hV2, hr2⟩ := hw
          rw [em] at hPm dmc dmo
          have dcm := dmc.symm
          have er := det_high hn9 hr1 hr2
          refine lv_icmp_eq (tgt := 821) hx hb dL_law_779 (by decide) (fun c_779 => ?_) (fun c_779 => absurd er c_779)
          refine lv_iinc (v := nI (4 * (i + 1))) (lv' := [(4, .int (nI (4 * (i + 1)))), (0, .ref b0), (1, .ref (h 0)), (2, .ref (ad 0)), (3, .ref o9)]) hx hb dL_law_821 hl (k := 4) rfl (by rw [show (4 * (i + 1)) = 4 * i + 4 by omega]; exact nI_add _ _) (by decide) rfl (fun ls hl => ?_)
          refine lv_goto (tgt := 23) hx hb dL_law_824 (by decide) ?_
          refine rw_cs (k := 15 + 8 * (i + 1)) (n := 8307 + 800 * (i + 1)) (by omega) (by omega) ?_
          exact ih (i + 1) b T n c9 g L X v2 Mc f9 (by omega) (by omega) ⟨hR, hT, hn9, hs, hV2, hNx.up, h99⟩ H locs hPc hPm hPo dcm dco dmo hS ls (lv_sub hl [1, 2, 3, 4, 0] rfl)
        · subst ejw
          refine lv_tableIn (off := 745) (tgt := 784) hx hb dL_law_39 (by decide +kernel) (by decide +kernel) (by decide +kernel) (by decide) ?_
          refine lv_aload_n hx hb dL_law_784 rfl (lv_at hl 1 rfl) ?_
          refine lv_aload_n hx hb dL_law_785 rfl (lv_at hl 0 rfl) ?_
          refine lv_iload hx hb dL_law_786 (lv_at hl 4 rfl) ?_
          refine lv_iconst (v := 1) hx hb dL_law_788 (by decide) ?_
          refine lv_iadd hx hb dL_law_789 ?_
          refine rw_i (v := nI ((4 * i) + 1)) (nI_1 _) ?_
          refine lw_sld hx hb hX9 hbl hbA hS (by omega) dL_law_790 (by omega) ?_
          refine lv_aload_n hx hb dL_law_791 rfl (lv_at hl 0 rfl) ?_
          refine lv_iload hx hb dL_law_792 (lv_at hl 4 rfl) ?_
          refine lv_iconst (v := nI 2) hx hb dL_law_794 (by decide) ?_
          refine lv_iadd hx hb dL_law_795 ?_
          refine rw_i (v := nI ((4 * i) + 2)) (nI_add _ _) ?_
          refine lw_sld hx hb hX9 hbl hbA hS (by omega) dL_law_796 (by omega) ?_
          refine lw_calli hPc hPm hPo dcm dco hS hA (va_runV (As := [.int (xs ((4 * i) + 1)), .int (xs ((4 * i) + 2))]) (rest := []) ⟨hx, hb, hml, hE.2.2.2.1, hE.2.2.1⟩ (tX3_rank l D k _ _ h b T n c9 g L X (xs ((4 * i) + 1)) (xs ((4 * i) + 2)) hR hT hn9 hs) (cwV 2 hE.2.2.1 gL_law_X3_rank rfl rfl rfl (by decide +kernel) ⟨(Nat.le_of_ble_eq_true rfl), (Nat.le_of_ble_eq_true rfl)⟩) (mw_preV hE hPc (ci := 4) rfl rfl hR.1.1 [.int (xs ((4 * i) + 1)), .int (xs ((4 * i) + 2))]) rfl rfl hl.1 rfl (lv_room (Nat.le_of_ble_eq_true rfl)) dL_law_797 ⟨lw_rc (by show 15 + 8 * i + 0 ≤ 600000; omega), lw_rs (by show 8307 + 800 * i + 0 ≤ 7000000; omega)⟩) (fun r1 M1 H locs hw hPc hPm hPo dcm dco hS => ?_)
          obtain ⟨hM1, hr1⟩ := hw
          rw [hM1] at hPc dcm dco
          refine lv_aload_n hx hb dL_law_800 rfl (lv_at hl 2 rfl) ?_
          refine lv_aload_n hx hb dL_law_801 rfl (lv_at hl 0 rfl) ?_
          refine lv_iload hx hb dL_law_802 (lv_at hl 4 rfl) ?_
          refine lv_iconst (v := 1) hx hb dL_law_804 (by decide) ?_
          refine lv_iadd hx hb dL_law_805 ?_
          refine rw_i (v := nI ((4 * i) + 1)) (nI_1 _) ?_
          refine lw_sld hx hb hX9 hbl hbA hS (by omega) dL_law_806 (by omega) ?_
          refine lv_aload_n hx hb dL_law_807 rfl (lv_at hl 0 rfl) ?_
          refine lv_iload hx hb dL_law_808 (lv_at hl 4 rfl) ?_
          refine lv_iconst (v := nI 2) hx hb dL_law_810 (by decide) ?_
          refine lv_iadd hx hb dL_law_811 ?_
          refine rw_i (v := nI ((4 * i) + 2)) (nI_add _ _) ?_
          refine lw_sld hx hb hX9 hbl hbA hS (by omega) dL_law_812 (by omega) ?_
          refine lw_calli hPm hPc hPo dcm.symm dmo hS hA (va_runV (As := [.int (xs ((4 * i) + 1)), .int (xs ((4 * i) + 2))]) (rest := [.int r1]) ⟨hx, hb, hml, hE.2.2.2.1, hE.2.2.1⟩ (tX4_rank l D k _ _ ad v g n (xs ((4 * i) + 1)) (xs ((4 * i) + 2)) hN hV hn9 rfl) (cwV 2 hE.2.2.1 gL_law_X4_rank rfl rfl rfl (by decide +kernel) ⟨(Nat.le_of_ble_eq_true rfl), (Nat.le_of_ble_eq_true rfl)⟩) (mw_preV hE hPm (ci := 5) rfl rfl mo_o [.int (xs ((4 * i) + 1)), .int (xs ((4 * i) + 2))]) rfl rfl hl.1 rfl (lv_room (Nat.le_of_ble_eq_true rfl)) dL_law_813 ⟨lw_rc (by show 15 + 8 * i + 0 ≤ 600000; omega), lw_rs (by show 8307 + 800 * i + 0 ≤ 7000000; omega)⟩) (fun r2 M2 H locs hw hPm hPc hPo dmc dmo hS => ?_)
          obtain ⟨v2, em, hV2, hr2⟩ := hw
          rw [em] at hPm dmc dmo
          have dcm := dmc.symm
          have er := det_rank hn9 hr1 hr2
          refine lv_icmp_eq (tgt := 821) hx hb dL_law_816 (by decide) (fun c_816 => ?_) (fun c_816 => absurd er c_816)
          refine lv_iinc (v := nI (4 * (i + 1))) (lv' := [(4, .int (nI (4 * (i + 1)))), (0, .ref b0), (1, .ref (h 0)), (2, .ref (ad 0)), (3, .ref o9)]) hx hb dL_law_821 hl (k := 4) rfl (by rw [show (4 * (i + 1)) = 4 * i + 4 by omega]; exact nI_add _ _) (by decide) rfl (fun ls hl => ?_)
          refine lv_goto (tgt := 23) hx hb dL_law_824 (by decide) ?_
          refine rw_cs (k := 15 + 8 * (i + 1)) (n := 8307 + 800 * (i + 1)) (by omega) (by omega) ?_
          exact ih (i + 1) b T n c9 g L X v2 Mc f9 (by omega) (by omega) ⟨hR, hT, hn9, hs, hV2, hNx.up, h99⟩ H locs hPc hPm hPo dcm dco dmo hS ls (lv_sub hl [1, 2, 3, 4, 0] rfl)
