theorem cp_z {M : mw} {a len : Nat} {cA : ClassId} {pa : Nat → Nat} (h : M a = some (.inl (cA, len, .inr (.inr (.inr (.inr (fun _ => none))))))) : M a = some (cp_q cA len 0 pa) := by
  rw [h]
  congr 7

set_option maxRecDepth 20000 in
theorem mX3_init_c15 : Cond.classLink RX3 15 RX0 ∈ wsX3_init := by decide +kernel
set_option maxRecDepth 20000 in
theorem mX3_init_c21 : Cond.classLink RX3 21 RX2 ∈ wsX3_init := by decide +kernel
set_option maxRecDepth 20000 in
theorem mX3_init_c9 : Cond.classLink RX3 9 RX1 ∈ wsX3_init := by decide +kernel
set_option maxRecDepth 20000 in
theorem mX3_init_f11 : Cond.fieldLink RX3 11 "CodePages" "pages" "[LCodePages$Page;" ∈ wsX3_init := by decide +kernel
set_option maxRecDepth 20000 in
theorem mX3_init_f17 : Cond.fieldLink RX3 17 "CodePages" "orders" "[LCodePages$Order;" ∈ wsX3_init := by decide +kernel
set_option maxRecDepth 20000 in
theorem mX3_init_f23 : Cond.fieldLink RX3 23 "CodePages" "texts" "[LCodePages$Text;" ∈ wsX3_init := by decide +kernel
set_option maxRecDepth 20000 in
theorem mX3_init_f27 : Cond.fieldLink RX3 27 "CodePages" "listed" "[I" ∈ wsX3_init := by decide +kernel
set_option maxRecDepth 20000 in
theorem mX3_init_f31 : Cond.fieldLink RX3 31 "CodePages" "pageCount" "I" ∈ wsX3_init := by decide +kernel
set_option maxRecDepth 20000 in
theorem mX3_init_f35 : Cond.fieldLink RX3 35 "CodePages" "orderCount" "I" ∈ wsX3_init := by decide +kernel
set_option maxRecDepth 20000 in
theorem mX3_init_f38 : Cond.fieldLink RX3 38 "CodePages" "textCount" "I" ∈ wsX3_init := by decide +kernel
set_option maxRecDepth 20000 in
theorem mX3_init_f41 : Cond.fieldLink RX3 41 "CodePages" "listedCount" "I" ∈ wsX3_init := by decide +kernel
set_option maxRecDepth 20000 in
theorem iX3_init_X3 : ∀ w ∈ u_ws RX3 TX3 8, w ∈ wsX3_init := by decide +kernel
set_option maxRecDepth 20000 in
theorem mX3_init_arrint : Cond.arrayClass .int ∈ wsX3_init := by decide +kernel
set_option maxRecDepth 20000 in
theorem mX3_init_cobj : Cond.code objectInit ⟨#[0xb1]⟩ 1 none ∈ wsX3_init := by decide +kernel
set_option maxRecDepth 20000 in
theorem mX3_init_imobjectInit : Cond.instanceMethod objectInit ∈ wsX3_init := by decide +kernel
set_option maxRecDepth 20000 in
theorem mX3_init_ml1 : Cond.methodLink RX3 1 objectInit ∈ wsX3_init := by decide +kernel
set_option maxHeartbeats 4000000 in
set_option maxRecDepth 100000 in
theorem tX3_init (l : Launch) (D : va_G) (k : Nat → ClassId) (M : mw) (sz : Nat) (a : Nat) (fa : M a = some (.inr (4, [.null, .null, .null, .null, .int 0, .int 0, .int 0, .int 0]))) : Met l yX3_init wsX3_init ({ frames := 1, cells := 4, slots := 264, locals := 12 }) (va_Pc [.ref a] (fun U => mw_U D vwCl (TY k) M sz U ∧ zAO U)) (va_Qv (fun M1 => ∃ h T, h 0 = a ∧ cp_R k h (fun _ _ => 0) (fun _ => 0) (fun _ _ _ => 0) M1 ∧ cp_T h (fun _ _ => 0) T (fun _ => 0)) (mw_B D vwCl M sz) (mw_A M sz)) 4 264 (mw_A M sz) := by
  refine mw_metZ (Z := zAO) (cc := cX3_init) (maxL := 1) (ret := none) (lv := [(0, .ref a)]) (by decide) rfl (Nat.le_of_ble_eq_true rfl) rfl ?_
  intro p e s m below meth c ls hZ9 hE hr hlocks hin hml hsz hP hS hl
  subst hsz
  have hx := hE.1
  have hb := hE.2.1
  have hA : ∀ q, s.heap.size ≤ q → mw_A M s.heap.size q := fun q h => Or.inr h
  refine lv_aload_n hx hb dX3_init_0 rfl (lv_at hl 0 rfl) ?_
  refine W.objInit hx hb hE.2.2.2.1 (hE.2.2.1 _ mX3_init_ml1) (hE.2.2.1 _ mX3_init_imobjectInit) (hE.2.2.1 _ mX3_init_cobj) rfl (by rw [hml]; exact hl.1) rfl dX3_init_1 (Nat.le_of_ble_eq_true rfl) (Nat.le_of_ble_eq_true rfl) ?_
  refine W.eq (g2 := F0 m 4 ls []) rfl ?_
  refine lv_aload_n hx hb dX3_init_4 rfl (lv_at hl 0 rfl) ?_
  refine lv_bipush (v := nI 12) hx hb dX3_init_5 (by decide) ?_
  refine mw_newq (C := RX1) (N' := 12) hE (hE.2.2.1 _ mX3_init_c9) (va_AO.use hZ9.1) hP hS hA 2 rfl (by decide) (by decide) (by decide) (by decide) (by decide) dX3_init_7 (fun q1 H hMq1 hP hS => ?_)
  refine rw_cs (k := 1) (n := 12) (by decide) (by decide) ?_
  obtain ⟨M_1, eM_1⟩ : ∃ Z, Z = mw_up M q1 (.inl (k 2, 12, .inr (.inr (.inr (.inr (fun _ => none)))))) := ⟨_, rfl⟩
  have hP : mw_Q (mw_A M s.heap.size) D vwCl M_1 H := by rw [eM_1]; exact hP
  have nf_2_q1 : a ≠ q1 := mw_ne hMq1 fa
  have f_2 : M_1 a = some (.inr (4, [.null, .null, .null, .null, .int 0, .int 0, .int 0, .int 0])) := by rw [eM_1, mw_up_n nf_2_q1]; exact fa
  have f_3 : M_1 q1 = some (.inl (k 2, 12, .inr (.inr (.inr (.inr (fun _ => none)))))) := by rw [eM_1]; exact mw_up_s
  refine mw_putF (ty := .array (.object "CodePages$Page")) (v := .ref q1) (ci := 4) (T := TX3) (N := 8) (C := RX3) hE iX3_init_X3 tyX3 tyX3_ok nmX3 hP hS f_2 rfl 0 (by decide) (hE.2.2.1 _ mX3_init_f11) rfl rfl hin rfl (by decide +kernel) rfl rfl (Nat.le_of_ble_eq_true rfl) dX3_init_10 (fun H locs hP hS => ?_)
  obtain ⟨M_4, eM_4⟩ : ∃ Z, Z = mw_up M_1 a (.inr (4, [.ref q1, .null, .null, .null, .int 0, .int 0, .int 0, .int 0])) := ⟨_, rfl⟩
  have hP : mw_Q (mw_A M s.heap.size) D vwCl M_4 H := by rw [eM_4]; exact hP
  have f_5 : M_4 a = some (.inr (4, [.ref q1, .null, .null, .null, .int 0, .int 0, .int 0, .int 0])) := by rw [eM_4]; exact mw_up_s
  have f_6 : M_4 q1 = some (.inl ((k 2), 12, .inr (.inr (.inr (.inr (fun _ => none)))))) := by rw [eM_4, mw_up_n (Ne.symm nf_2_q1)]; exact f_3
  refine lv_aload_n hx hb dX3_init_13 rfl (lv_at hl 0 rfl) ?_
  refine lv_bipush (v := nI 12) hx hb dX3_init_14 (by decide) ?_
  refine mw_newq (C := RX0) (N' := 12) hE (hE.2.2.1 _ mX3_init_c15) (va_AO.use hZ9.2.1) hP hS hA 3 rfl (by decide) (by decide) (by decide) (by decide) (by decide) dX3_init_16 (fun q2 H hMq2 hP hS => ?_)
  refine rw_cs (k := 2) (n := 24) (by decide) (by decide) ?_
  obtain ⟨M_7, eM_7⟩ : ∃ Z, Z = mw_up M_4 q2 (.inl (k 3, 12, .inr (.inr (.inr (.inr (fun _ => none)))))) := ⟨_, rfl⟩
  have hP : mw_Q (mw_A M s.heap.size) D vwCl M_7 H := by rw [eM_7]; exact hP
  have nf_8_q2 : a ≠ q2 := mw_ne hMq2 f_5
  have f_8 : M_7 a = some (.inr (4, [.ref q1, .null, .null, .null, .int 0, .int 0, .int 0, .int 0])) := by rw [eM_7, mw_up_n nf_8_q2]; exact f_5
  have nf_9_q2 : q1 ≠ q2 := mw_ne hMq2 f_6
  have f_9 : M_7 q1 = some (.inl ((k 2), 12, .inr (.inr (.inr (.inr (fun _ => none)))))) := by rw [eM_7, mw_up_n nf_9_q2]; exact f_6
  have f_10 : M_7 q2 = some (.inl (k 3, 12, .inr (.inr (.inr (.inr (fun _ => none)))))) := by rw [eM_7]; exact mw_up_s
  refine mw_putF (ty := .array (.object "CodePages$Order")) (v := .ref q2) (ci := 4) (T := TX3) (N := 8) (C := RX3) hE iX3_init_X3 tyX3 tyX3_ok nmX3 hP hS f_8 rfl 1 (by decide) (hE.2.2.1 _ mX3_init_f17) rfl rfl hin rfl (by decide +kernel) rfl rfl (Nat.le_of_ble_eq_true rfl) dX3_init_19 (fun H locs hP hS => ?_)
  obtain ⟨M_11, eM_11⟩ : ∃ Z, Z = mw_up M_7 a (.inr (4, [.ref q1, .ref q2, .null, .null, .int 0, .int 0, .int 0, .int 0])) := ⟨_, rfl⟩
  have hP : mw_Q (mw_A M s.heap.size) D vwCl M_11 H := by rw [eM_11]; exact hP
  have f_12 : M_11 a = some (.inr (4, [.ref q1, .ref q2, .null, .null, .int 0, .int 0, .int 0, .int 0])) := by rw [eM_11]; exact mw_up_s
  have f_13 : M_11 q1 = some (.inl ((k 2), 12, .inr (.inr (.inr (.inr (fun _ => none)))))) := by rw [eM_11, mw_up_n (Ne.symm nf_2_q1)]; exact f_9
  have f_14 : M_11 q2 = some (.inl ((k 3), 12, .inr (.inr (.inr (.inr (fun _ => none)))))) := by rw [eM_11, mw_up_n (Ne.symm nf_8_q2)]; exact f_10
  refine lv_aload_n hx hb dX3_init_22 rfl (lv_at hl 0 rfl) ?_
  refine lv_bipush (v := nI 40) hx hb dX3_init_23 (by decide) ?_
  refine mw_newq (C := RX2) (N' := 40) hE (hE.2.2.1 _ mX3_init_c21) (va_AO.use hZ9.2.2) hP hS hA 4 rfl (by decide) (by decide) (by decide) (by decide) (by decide) dX3_init_25 (fun q3 H hMq3 hP hS => ?_)
  refine rw_cs (k := 3) (n := 64) (by decide) (by decide) ?_
  obtain ⟨M_15, eM_15⟩ : ∃ Z, Z = mw_up M_11 q3 (.inl (k 4, 40, .inr (.inr (.inr (.inr (fun _ => none)))))) := ⟨_, rfl⟩
  have hP : mw_Q (mw_A M s.heap.size) D vwCl M_15 H := by rw [eM_15]; exact hP
  have nf_16_q3 : a ≠ q3 := mw_ne hMq3 f_12
  have f_16 : M_15 a = some (.inr (4, [.ref q1, .ref q2, .null, .null, .int 0, .int 0, .int 0, .int 0])) := by rw [eM_15, mw_up_n nf_16_q3]; exact f_12
  have nf_17_q3 : q1 ≠ q3 := mw_ne hMq3 f_13
  have f_17 : M_15 q1 = some (.inl ((k 2), 12, .inr (.inr (.inr (.inr (fun _ => none)))))) := by rw [eM_15, mw_up_n nf_17_q3]; exact f_13
  have nf_18_q3 : q2 ≠ q3 := mw_ne hMq3 f_14
  have f_18 : M_15 q2 = some (.inl ((k 3), 12, .inr (.inr (.inr (.inr (fun _ => none)))))) := by rw [eM_15, mw_up_n nf_18_q3]; exact f_14
  have f_19 : M_15 q3 = some (.inl (k 4, 40, .inr (.inr (.inr (.inr (fun _ => none)))))) := by rw [eM_15]; exact mw_up_s
  refine mw_putF (ty := .array (.object "CodePages$Text")) (v := .ref q3) (ci := 4) (T := TX3) (N := 8) (C := RX3) hE iX3_init_X3 tyX3 tyX3_ok nmX3 hP hS f_16 rfl 2 (by decide) (hE.2.2.1 _ mX3_init_f23) rfl rfl hin rfl (by decide +kernel) rfl rfl (Nat.le_of_ble_eq_true rfl) dX3_init_28 (fun H locs hP hS => ?_)
  obtain ⟨M_20, eM_20⟩ : ∃ Z, Z = mw_up M_15 a (.inr (4, [.ref q1, .ref q2, .ref q3, .null, .int 0, .int 0, .int 0, .int 0])) := ⟨_, rfl⟩
  have hP : mw_Q (mw_A M s.heap.size) D vwCl M_20 H := by rw [eM_20]; exact hP
  have f_21 : M_20 a = some (.inr (4, [.ref q1, .ref q2, .ref q3, .null, .int 0, .int 0, .int 0, .int 0])) := by rw [eM_20]; exact mw_up_s
  have f_22 : M_20 q1 = some (.inl ((k 2), 12, .inr (.inr (.inr (.inr (fun _ => none)))))) := by rw [eM_20, mw_up_n (Ne.symm nf_2_q1)]; exact f_17
  have f_23 : M_20 q2 = some (.inl ((k 3), 12, .inr (.inr (.inr (.inr (fun _ => none)))))) := by rw [eM_20, mw_up_n (Ne.symm nf_8_q2)]; exact f_18
  have f_24 : M_20 q3 = some (.inl ((k 4), 40, .inr (.inr (.inr (.inr (fun _ => none)))))) := by rw [eM_20, mw_up_n (Ne.symm nf_16_q3)]; exact f_19
  refine lv_aload_n hx hb dX3_init_31 rfl (lv_at hl 0 rfl) ?_
  refine lv_sipush (v := nI 200) hx hb dX3_init_32 (by decide) ?_
  refine mw_newa (atype := .int) (N' := 200) (a0 := (200, .inl (fun _ => 0))) hE (hE.2.2.1 _ mX3_init_arrint) rfl (fun _ _ h => h) hP hS hA 0 rfl rfl (by decide) (by decide) (by decide) (by decide) (by decide) dX3_init_35 (fun q4 H hMq4 hP hS => ?_)
  refine rw_cs (k := 4) (n := 264) (by decide) (by decide) ?_
  obtain ⟨M_25, eM_25⟩ : ∃ Z, Z = mw_up M_20 q4 (.inl (k 0, 200, .inl (fun _ => 0))) := ⟨_, rfl⟩
  have hP : mw_Q (mw_A M s.heap.size) D vwCl M_25 H := by rw [eM_25]; exact hP
  have nf_26_q4 : a ≠ q4 := mw_ne hMq4 f_21
  have f_26 : M_25 a = some (.inr (4, [.ref q1, .ref q2, .ref q3, .null, .int 0, .int 0, .int 0, .int 0])) := by rw [eM_25, mw_up_n nf_26_q4]; exact f_21
  have nf_27_q4 : q1 ≠ q4 := mw_ne hMq4 f_22
  have f_27 : M_25 q1 = some (.inl ((k 2), 12, .inr (.inr (.inr (.inr (fun _ => none)))))) := by rw [eM_25, mw_up_n nf_27_q4]; exact f_22
  have nf_28_q4 : q2 ≠ q4 := mw_ne hMq4 f_23
  have f_28 : M_25 q2 = some (.inl ((k 3), 12, .inr (.inr (.inr (.inr (fun _ => none)))))) := by rw [eM_25, mw_up_n nf_28_q4]; exact f_23
  have nf_29_q4 : q3 ≠ q4 := mw_ne hMq4 f_24
  have f_29 : M_25 q3 = some (.inl ((k 4), 40, .inr (.inr (.inr (.inr (fun _ => none)))))) := by rw [eM_25, mw_up_n nf_29_q4]; exact f_24
  have f_30 : M_25 q4 = some (.inl (k 0, 200, .inl (fun _ => 0))) := by rw [eM_25]; exact mw_up_s
  refine mw_putF (ty := .array .int) (v := .ref q4) (ci := 4) (T := TX3) (N := 8) (C := RX3) hE iX3_init_X3 tyX3 tyX3_ok nmX3 hP hS f_26 rfl 3 (by decide) (hE.2.2.1 _ mX3_init_f27) rfl rfl hin rfl (by decide +kernel) rfl rfl (Nat.le_of_ble_eq_true rfl) dX3_init_37 (fun H locs hP hS => ?_)
  obtain ⟨M_31, eM_31⟩ : ∃ Z, Z = mw_up M_25 a (.inr (4, [.ref q1, .ref q2, .ref q3, .ref q4, .int 0, .int 0, .int 0, .int 0])) := ⟨_, rfl⟩
  have hP : mw_Q (mw_A M s.heap.size) D vwCl M_31 H := by rw [eM_31]; exact hP
  have f_32 : M_31 a = some (.inr (4, [.ref q1, .ref q2, .ref q3, .ref q4, .int 0, .int 0, .int 0, .int 0])) := by rw [eM_31]; exact mw_up_s
  have f_33 : M_31 q1 = some (.inl ((k 2), 12, .inr (.inr (.inr (.inr (fun _ => none)))))) := by rw [eM_31, mw_up_n (Ne.symm nf_2_q1)]; exact f_27
  have f_34 : M_31 q2 = some (.inl ((k 3), 12, .inr (.inr (.inr (.inr (fun _ => none)))))) := by rw [eM_31, mw_up_n (Ne.symm nf_8_q2)]; exact f_28
  have f_35 : M_31 q3 = some (.inl ((k 4), 40, .inr (.inr (.inr (.inr (fun _ => none)))))) := by rw [eM_31, mw_up_n (Ne.symm nf_16_q3)]; exact f_29
  have f_36 : M_31 q4 = some (.inl ((k 0), 200, .inl (fun _ => 0))) := by rw [eM_31, mw_up_n (Ne.symm nf_26_q4)]; exact f_30
  refine lv_aload_n hx hb dX3_init_40 rfl (lv_at hl 0 rfl) ?_
  refine lv_iconst (v := 0) hx hb dX3_init_41 (by decide) ?_
  refine mw_put (ty := .int) (v := .int 0) (ci := 4) (T := TX3) (N := 8) (C := RX3) hE iX3_init_X3 tyX3 tyX3_ok nmX3 hP hS f_32 rfl 4 (by decide) (hE.2.2.1 _ mX3_init_f31) rfl rfl (by decide +kernel) rfl rfl (Nat.le_of_ble_eq_true rfl) dX3_init_42 (fun H locs hP hS => ?_)
  obtain ⟨M_37, eM_37⟩ : ∃ Z, Z = mw_up M_31 a (.inr (4, [.ref q1, .ref q2, .ref q3, .ref q4, .int 0, .int 0, .int 0, .int 0])) := ⟨_, rfl⟩
  have hP : mw_Q (mw_A M s.heap.size) D vwCl M_37 H := by rw [eM_37]; exact hP
  have f_38 : M_37 a = some (.inr (4, [.ref q1, .ref q2, .ref q3, .ref q4, .int 0, .int 0, .int 0, .int 0])) := by rw [eM_37]; exact mw_up_s
  have f_39 : M_37 q1 = some (.inl ((k 2), 12, .inr (.inr (.inr (.inr (fun _ => none)))))) := by rw [eM_37, mw_up_n (Ne.symm nf_2_q1)]; exact f_33
  have f_40 : M_37 q2 = some (.inl ((k 3), 12, .inr (.inr (.inr (.inr (fun _ => none)))))) := by rw [eM_37, mw_up_n (Ne.symm nf_8_q2)]; exact f_34
  have f_41 : M_37 q3 = some (.inl ((k 4), 40, .inr (.inr (.inr (.inr (fun _ => none)))))) := by rw [eM_37, mw_up_n (Ne.symm nf_16_q3)]; exact f_35
  have f_42 : M_37 q4 = some (.inl ((k 0), 200, .inl (fun _ => 0))) := by rw [eM_37, mw_up_n (Ne.symm nf_26_q4)]; exact f_36
  refine lv_aload_n hx hb dX3_init_45 rfl (lv_at hl 0 rfl) ?_
  refine lv_iconst (v := 0) hx hb dX3_init_46 (by decide) ?_
  refine mw_put (ty := .int) (v := .int 0) (ci := 4) (T := TX3) (N := 8) (C := RX3) hE iX3_init_X3 tyX3 tyX3_ok nmX3 hP hS f_38 rfl 5 (by decide) (hE.2.2.1 _ mX3_init_f35) rfl rfl (by decide +kernel) rfl rfl (Nat.le_of_ble_eq_true rfl) dX3_init_47 (fun H locs hP hS => ?_)
  obtain ⟨M_43, eM_43⟩ : ∃ Z, Z = mw_up M_37 a (.inr (4, [.ref q1, .ref q2, .ref q3, .ref q4, .int 0, .int 0, .int 0, .int 0])) := ⟨_, rfl⟩
  have hP : mw_Q (mw_A M s.heap.size) D vwCl M_43 H := by rw [eM_43]; exact hP
  have f_44 : M_43 a = some (.inr (4, [.ref q1, .ref q2, .ref q3, .ref q4, .int 0, .int 0, .int 0, .int 0])) := by rw [eM_43]; exact mw_up_s
  have f_45 : M_43 q1 = some (.inl ((k 2), 12, .inr (.inr (.inr (.inr (fun _ => none)))))) := by rw [eM_43, mw_up_n (Ne.symm nf_2_q1)]; exact f_39
  have f_46 : M_43 q2 = some (.inl ((k 3), 12, .inr (.inr (.inr (.inr (fun _ => none)))))) := by rw [eM_43, mw_up_n (Ne.symm nf_8_q2)]; exact f_40
  have f_47 : M_43 q3 = some (.inl ((k 4), 40, .inr (.inr (.inr (.inr (fun _ => none)))))) := by rw [eM_43, mw_up_n (Ne.symm nf_16_q3)]; exact f_41
  have f_48 : M_43 q4 = some (.inl ((k 0), 200, .inl (fun _ => 0))) := by rw [eM_43, mw_up_n (Ne.symm nf_26_q4)]; exact f_42
  refine lv_aload_n hx hb dX3_init_50 rfl (lv_at hl 0 rfl) ?_
  refine lv_iconst (v := 0) hx hb dX3_init_51 (by decide) ?_
  refine mw_put (ty := .int) (v := .int 0) (ci := 4) (T := TX3) (N := 8) (C := RX3) hE iX3_init_X3 tyX3 tyX3_ok nmX3 hP hS f_44 rfl 6 (by decide) (hE.2.2.1 _ mX3_init_f38) rfl rfl (by decide +kernel) rfl rfl (Nat.le_of_ble_eq_true rfl) dX3_init_52 (fun H locs hP hS => ?_)
  obtain ⟨M_49, eM_49⟩ : ∃ Z, Z = mw_up M_43 a (.inr (4, [.ref q1, .ref q2, .ref q3, .ref q4, .int 0, .int 0, .int 0, .int 0])) := ⟨_, rfl⟩
  have hP : mw_Q (mw_A M s.heap.size) D vwCl M_49 H := by rw [eM_49]; exact hP
  have f_50 : M_49 a = some (.inr (4, [.ref q1, .ref q2, .ref q3, .ref q4, .int 0, .int 0, .int 0, .int 0])) := by rw [eM_49]; exact mw_up_s
  have f_51 : M_49 q1 = some (.inl ((k 2), 12, .inr (.inr (.inr (.inr (fun _ => none)))))) := by rw [eM_49, mw_up_n (Ne.symm nf_2_q1)]; exact f_45
  have f_52 : M_49 q2 = some (.inl ((k 3), 12, .inr (.inr (.inr (.inr (fun _ => none)))))) := by rw [eM_49, mw_up_n (Ne.symm nf_8_q2)]; exact f_46
  have f_53 : M_49 q3 = some (.inl ((k 4), 40, .inr (.inr (.inr (.inr (fun _ => none)))))) := by rw [eM_49, mw_up_n (Ne.symm nf_16_q3)]; exact f_47
  have f_54 : M_49 q4 = some (.inl ((k 0), 200, .inl (fun _ => 0))) := by rw [eM_49, mw_up_n (Ne.symm nf_26_q4)]; exact f_48
  refine lv_aload_n hx hb dX3_init_55 rfl (lv_at hl 0 rfl) ?_
  refine lv_iconst (v := 0) hx hb dX3_init_56 (by decide) ?_
  refine mw_put (ty := .int) (v := .int 0) (ci := 4) (T := TX3) (N := 8) (C := RX3) hE iX3_init_X3 tyX3 tyX3_ok nmX3 hP hS f_50 rfl 7 (by decide) (hE.2.2.1 _ mX3_init_f41) rfl rfl (by decide +kernel) rfl rfl (Nat.le_of_ble_eq_true rfl) dX3_init_57 (fun H locs hP hS => ?_)
  obtain ⟨M_55, eM_55⟩ : ∃ Z, Z = mw_up M_49 a (.inr (4, [.ref q1, .ref q2, .ref q3, .ref q4, .int 0, .int 0, .int 0, .int 0])) := ⟨_, rfl⟩
  have hP : mw_Q (mw_A M s.heap.size) D vwCl M_55 H := by rw [eM_55]; exact hP
  have f_56 : M_55 a = some (.inr (4, [.ref q1, .ref q2, .ref q3, .ref q4, .int 0, .int 0, .int 0, .int 0])) := by rw [eM_55]; exact mw_up_s
  have f_57 : M_55 q1 = some (.inl ((k 2), 12, .inr (.inr (.inr (.inr (fun _ => none)))))) := by rw [eM_55, mw_up_n (Ne.symm nf_2_q1)]; exact f_51
  have f_58 : M_55 q2 = some (.inl ((k 3), 12, .inr (.inr (.inr (.inr (fun _ => none)))))) := by rw [eM_55, mw_up_n (Ne.symm nf_8_q2)]; exact f_52
  have f_59 : M_55 q3 = some (.inl ((k 4), 40, .inr (.inr (.inr (.inr (fun _ => none)))))) := by rw [eM_55, mw_up_n (Ne.symm nf_16_q3)]; exact f_53
  have f_60 : M_55 q4 = some (.inl ((k 0), 200, .inl (fun _ => 0))) := by rw [eM_55, mw_up_n (Ne.symm nf_26_q4)]; exact f_54
  have hT0 : cp_T (fun j => match j with | 0 => a | 1 => q1 | 2 => q2 | 3 => q3 | _ => q4) (fun _ _ => 0) (va_up (va_up (va_up (va_up (va_up (fun _ => (9, 9)) a (0, 0)) q1 (0, 1)) q2 (0, 2)) q3 (0, 3)) q4 (0, 4)) (fun _ => 0) := ⟨fun j hj => by rcases (show j = 0 ∨ j = 1 ∨ j = 2 ∨ j = 3 ∨ j = 4 by omega) with rfl | rfl | rfl | rfl | rfl <;> simp [va_up, nf_2_q1, nf_8_q2, nf_16_q3, nf_26_q4, nf_9_q2, nf_17_q3, nf_27_q4, nf_18_q3, nf_28_q4, nf_29_q4, Ne.symm nf_2_q1, Ne.symm nf_8_q2, Ne.symm nf_16_q3, Ne.symm nf_26_q4, Ne.symm nf_9_q2, Ne.symm nf_17_q3, Ne.symm nf_27_q4, Ne.symm nf_18_q3, Ne.symm nf_28_q4, Ne.symm nf_29_q4], fun _ h => absurd h (Nat.not_lt_zero _), fun _ h => absurd h (Nat.not_lt_zero _), fun _ h => absurd h (Nat.not_lt_zero _)⟩
  exact mw_vret hE hr hlocks hP hS dX3_init_60 (⟨_, _, rfl, ⟨⟨f_56, cp_z f_57, cp_z f_58, cp_z f_59, f_60⟩, fun _ h => absurd h (Nat.not_lt_zero _), fun _ h => absurd h (Nat.not_lt_zero _), fun _ h => absurd h (Nat.not_lt_zero _)⟩, hT0⟩)

set_option maxRecDepth 20000 in
theorem mX4_init_f13 : Cond.fieldLink RX4 13 "CodePagesModel" "standIns" "[I" ∈ wsX4_init := by decide +kernel
set_option maxRecDepth 20000 in
theorem mX4_init_f16 : Cond.fieldLink RX4 16 "CodePagesModel" "kinds" "[I" ∈ wsX4_init := by decide +kernel
set_option maxRecDepth 20000 in
theorem mX4_init_f19 : Cond.fieldLink RX4 19 "CodePagesModel" "ranks" "[I" ∈ wsX4_init := by decide +kernel
set_option maxRecDepth 20000 in
theorem mX4_init_f22 : Cond.fieldLink RX4 22 "CodePagesModel" "next" "[I" ∈ wsX4_init := by decide +kernel
set_option maxRecDepth 20000 in
theorem mX4_init_f25 : Cond.fieldLink RX4 25 "CodePagesModel" "texts" "[I" ∈ wsX4_init := by decide +kernel
set_option maxRecDepth 20000 in
theorem mX4_init_f28 : Cond.fieldLink RX4 28 "CodePagesModel" "lengths" "[I" ∈ wsX4_init := by decide +kernel
set_option maxRecDepth 20000 in
theorem mX4_init_f31 : Cond.fieldLink RX4 31 "CodePagesModel" "listed" "[I" ∈ wsX4_init := by decide +kernel
set_option maxRecDepth 20000 in
theorem mX4_init_f7 : Cond.fieldLink RX4 7 "CodePagesModel" "means" "[I" ∈ wsX4_init := by decide +kernel
set_option maxRecDepth 20000 in
theorem iX4_init_X4 : ∀ w ∈ u_ws RX4 TX4 14, w ∈ wsX4_init := by decide +kernel
set_option maxRecDepth 20000 in
theorem mX4_init_arrint : Cond.arrayClass .int ∈ wsX4_init := by decide +kernel
set_option maxRecDepth 20000 in
theorem mX4_init_cobj : Cond.code objectInit ⟨#[0xb1]⟩ 1 none ∈ wsX4_init := by decide +kernel
set_option maxRecDepth 20000 in
theorem mX4_init_imobjectInit : Cond.instanceMethod objectInit ∈ wsX4_init := by decide +kernel
set_option maxRecDepth 20000 in
theorem mX4_init_ml1 : Cond.methodLink RX4 1 objectInit ∈ wsX4_init := by decide +kernel
set_option maxHeartbeats 4000000 in
set_option maxRecDepth 100000 in
theorem tX4_init (l : Launch) (D : va_G) (k : Nat → ClassId) (M : mw) (sz : Nat) (a : Nat) (fa : M a = some (.inr (5, [.int 0, .null, .null, .int 0, .null, .null, .null, .int 0, .null, .null, .int 0, .null, .int 0, .int 0]))) : Met l yX4_init wsX4_init ({ frames := 1, cells := 8, slots := 8020, locals := 12 }) (va_Pc [.ref a] (mw_U D vwCl (TY k) M sz)) (va_Qv (fun M1 => ∃ ad : Nat → Nat, ad 0 = a ∧ mo_N ad ∧ ∀ x e, mo_M (k 0) ad (fun _ => 0) (fun _ _ => 0) x = some e → M1 x = some e) (mw_B D vwCl M sz) (mw_A M sz)) 8 8020 (mw_A M sz) := by
  refine mw_met (cc := cX4_init) (maxL := 1) (ret := none) (lv := [(0, .ref a)]) (by decide) rfl (Nat.le_of_ble_eq_true rfl) rfl ?_
  intro p e s m below meth c ls hE hr hlocks hin hml hsz hP hS hl
  subst hsz
  have hx := hE.1
  have hb := hE.2.1
  have hA : ∀ q, s.heap.size ≤ q → mw_A M s.heap.size q := fun q h => Or.inr h
  refine lv_aload_n hx hb dX4_init_0 rfl (lv_at hl 0 rfl) ?_
  refine W.objInit hx hb hE.2.2.2.1 (hE.2.2.1 _ mX4_init_ml1) (hE.2.2.1 _ mX4_init_imobjectInit) (hE.2.2.1 _ mX4_init_cobj) rfl (by rw [hml]; exact hl.1) rfl dX4_init_1 (Nat.le_of_ble_eq_true rfl) (Nat.le_of_ble_eq_true rfl) ?_
  refine W.eq (g2 := F0 m 4 ls []) rfl ?_
  refine lv_aload_n hx hb dX4_init_4 rfl (lv_at hl 0 rfl) ?_
  refine lv_sipush (v := nI 3072) hx hb dX4_init_5 (by decide) ?_
  refine mw_newa (atype := .int) (N' := 3072) (a0 := (3072, .inl (fun _ => 0))) hE (hE.2.2.1 _ mX4_init_arrint) rfl (fun _ _ h => h) hP hS hA 0 rfl rfl (by decide) (by decide) (by decide) (by decide) (by decide) dX4_init_8 (fun q1 H hMq1 hP hS => ?_)
  refine rw_cs (k := 1) (n := 3072) (by decide) (by decide) ?_
  obtain ⟨M_1, eM_1⟩ : ∃ Z, Z = mw_up M q1 (.inl (k 0, 3072, .inl (fun _ => 0))) := ⟨_, rfl⟩
  have hP : mw_Q (mw_A M s.heap.size) D vwCl M_1 H := by rw [eM_1]; exact hP
  have nf_2_q1 : a ≠ q1 := mw_ne hMq1 fa
  have f_2 : M_1 a = some (.inr (5, [.int 0, .null, .null, .int 0, .null, .null, .null, .int 0, .null, .null, .int 0, .null, .int 0, .int 0])) := by rw [eM_1, mw_up_n nf_2_q1]; exact fa
  have f_3 : M_1 q1 = some (.inl (k 0, 3072, .inl (fun _ => 0))) := by rw [eM_1]; exact mw_up_s
  refine mw_putF (ty := .array .int) (v := .ref q1) (ci := 5) (T := TX4) (N := 14) (C := RX4) hE iX4_init_X4 tyX4 tyX4_ok nmX4 hP hS f_2 rfl 1 (by decide) (hE.2.2.1 _ mX4_init_f7) rfl rfl hin rfl (by decide +kernel) rfl rfl (Nat.le_of_ble_eq_true rfl) dX4_init_10 (fun H locs hP hS => ?_)
  obtain ⟨M_4, eM_4⟩ : ∃ Z, Z = mw_up M_1 a (.inr (5, [.int 0, .ref q1, .null, .int 0, .null, .null, .null, .int 0, .null, .null, .int 0, .null, .int 0, .int 0])) := ⟨_, rfl⟩
  have hP : mw_Q (mw_A M s.heap.size) D vwCl M_4 H := by rw [eM_4]; exact hP
  have f_5 : M_4 a = some (.inr (5, [.int 0, .ref q1, .null, .int 0, .null, .null, .null, .int 0, .null, .null, .int 0, .null, .int 0, .int 0])) := by rw [eM_4]; exact mw_up_s
  have f_6 : M_4 q1 = some (.inl ((k 0), 3072, .inl (fun _ => 0))) := by rw [eM_4, mw_up_n (Ne.symm nf_2_q1)]; exact f_3
  refine lv_aload_n hx hb dX4_init_13 rfl (lv_at hl 0 rfl) ?_
  refine lv_bipush (v := nI 12) hx hb dX4_init_14 (by decide) ?_
  refine mw_newa (atype := .int) (N' := 12) (a0 := (12, .inl (fun _ => 0))) hE (hE.2.2.1 _ mX4_init_arrint) rfl (fun _ _ h => h) hP hS hA 0 rfl rfl (by decide) (by decide) (by decide) (by decide) (by decide) dX4_init_16 (fun q2 H hMq2 hP hS => ?_)
  refine rw_cs (k := 2) (n := 3084) (by decide) (by decide) ?_
  obtain ⟨M_7, eM_7⟩ : ∃ Z, Z = mw_up M_4 q2 (.inl (k 0, 12, .inl (fun _ => 0))) := ⟨_, rfl⟩
  have hP : mw_Q (mw_A M s.heap.size) D vwCl M_7 H := by rw [eM_7]; exact hP
  have nf_8_q2 : a ≠ q2 := mw_ne hMq2 f_5
  have f_8 : M_7 a = some (.inr (5, [.int 0, .ref q1, .null, .int 0, .null, .null, .null, .int 0, .null, .null, .int 0, .null, .int 0, .int 0])) := by rw [eM_7, mw_up_n nf_8_q2]; exact f_5
  have nf_9_q2 : q1 ≠ q2 := mw_ne hMq2 f_6
  have f_9 : M_7 q1 = some (.inl ((k 0), 3072, .inl (fun _ => 0))) := by rw [eM_7, mw_up_n nf_9_q2]; exact f_6
  have f_10 : M_7 q2 = some (.inl (k 0, 12, .inl (fun _ => 0))) := by rw [eM_7]; exact mw_up_s
  refine mw_putF (ty := .array .int) (v := .ref q2) (ci := 5) (T := TX4) (N := 14) (C := RX4) hE iX4_init_X4 tyX4 tyX4_ok nmX4 hP hS f_8 rfl 2 (by decide) (hE.2.2.1 _ mX4_init_f13) rfl rfl hin rfl (by decide +kernel) rfl rfl (Nat.le_of_ble_eq_true rfl) dX4_init_18 (fun H locs hP hS => ?_)
  obtain ⟨M_11, eM_11⟩ : ∃ Z, Z = mw_up M_7 a (.inr (5, [.int 0, .ref q1, .ref q2, .int 0, .null, .null, .null, .int 0, .null, .null, .int 0, .null, .int 0, .int 0])) := ⟨_, rfl⟩
  have hP : mw_Q (mw_A M s.heap.size) D vwCl M_11 H := by rw [eM_11]; exact hP
  have f_12 : M_11 a = some (.inr (5, [.int 0, .ref q1, .ref q2, .int 0, .null, .null, .null, .int 0, .null, .null, .int 0, .null, .int 0, .int 0])) := by rw [eM_11]; exact mw_up_s
  have f_13 : M_11 q1 = some (.inl ((k 0), 3072, .inl (fun _ => 0))) := by rw [eM_11, mw_up_n (Ne.symm nf_2_q1)]; exact f_9
  have f_14 : M_11 q2 = some (.inl ((k 0), 12, .inl (fun _ => 0))) := by rw [eM_11, mw_up_n (Ne.symm nf_8_q2)]; exact f_10
  refine lv_aload_n hx hb dX4_init_21 rfl (lv_at hl 0 rfl) ?_
  refine lv_bipush (v := nI 12) hx hb dX4_init_22 (by decide) ?_
  refine mw_newa (atype := .int) (N' := 12) (a0 := (12, .inl (fun _ => 0))) hE (hE.2.2.1 _ mX4_init_arrint) rfl (fun _ _ h => h) hP hS hA 0 rfl rfl (by decide) (by decide) (by decide) (by decide) (by decide) dX4_init_24 (fun q4 H hMq4 hP hS => ?_)
  refine rw_cs (k := 3) (n := 3096) (by decide) (by decide) ?_
  obtain ⟨M_15, eM_15⟩ : ∃ Z, Z = mw_up M_11 q4 (.inl (k 0, 12, .inl (fun _ => 0))) := ⟨_, rfl⟩
  have hP : mw_Q (mw_A M s.heap.size) D vwCl M_15 H := by rw [eM_15]; exact hP
  have nf_16_q4 : a ≠ q4 := mw_ne hMq4 f_12
  have f_16 : M_15 a = some (.inr (5, [.int 0, .ref q1, .ref q2, .int 0, .null, .null, .null, .int 0, .null, .null, .int 0, .null, .int 0, .int 0])) := by rw [eM_15, mw_up_n nf_16_q4]; exact f_12
  have nf_17_q4 : q1 ≠ q4 := mw_ne hMq4 f_13
  have f_17 : M_15 q1 = some (.inl ((k 0), 3072, .inl (fun _ => 0))) := by rw [eM_15, mw_up_n nf_17_q4]; exact f_13
  have nf_18_q4 : q2 ≠ q4 := mw_ne hMq4 f_14
  have f_18 : M_15 q2 = some (.inl ((k 0), 12, .inl (fun _ => 0))) := by rw [eM_15, mw_up_n nf_18_q4]; exact f_14
  have f_19 : M_15 q4 = some (.inl (k 0, 12, .inl (fun _ => 0))) := by rw [eM_15]; exact mw_up_s
  refine mw_putF (ty := .array .int) (v := .ref q4) (ci := 5) (T := TX4) (N := 14) (C := RX4) hE iX4_init_X4 tyX4 tyX4_ok nmX4 hP hS f_16 rfl 4 (by decide) (hE.2.2.1 _ mX4_init_f16) rfl rfl hin rfl (by decide +kernel) rfl rfl (Nat.le_of_ble_eq_true rfl) dX4_init_26 (fun H locs hP hS => ?_)
  obtain ⟨M_20, eM_20⟩ : ∃ Z, Z = mw_up M_15 a (.inr (5, [.int 0, .ref q1, .ref q2, .int 0, .ref q4, .null, .null, .int 0, .null, .null, .int 0, .null, .int 0, .int 0])) := ⟨_, rfl⟩
  have hP : mw_Q (mw_A M s.heap.size) D vwCl M_20 H := by rw [eM_20]; exact hP
  have f_21 : M_20 a = some (.inr (5, [.int 0, .ref q1, .ref q2, .int 0, .ref q4, .null, .null, .int 0, .null, .null, .int 0, .null, .int 0, .int 0])) := by rw [eM_20]; exact mw_up_s
  have f_22 : M_20 q1 = some (.inl ((k 0), 3072, .inl (fun _ => 0))) := by rw [eM_20, mw_up_n (Ne.symm nf_2_q1)]; exact f_17
  have f_23 : M_20 q2 = some (.inl ((k 0), 12, .inl (fun _ => 0))) := by rw [eM_20, mw_up_n (Ne.symm nf_8_q2)]; exact f_18
  have f_24 : M_20 q4 = some (.inl ((k 0), 12, .inl (fun _ => 0))) := by rw [eM_20, mw_up_n (Ne.symm nf_16_q4)]; exact f_19
  refine lv_aload_n hx hb dX4_init_29 rfl (lv_at hl 0 rfl) ?_
  refine lv_sipush (v := nI 3072) hx hb dX4_init_30 (by decide) ?_
  refine mw_newa (atype := .int) (N' := 3072) (a0 := (3072, .inl (fun _ => 0))) hE (hE.2.2.1 _ mX4_init_arrint) rfl (fun _ _ h => h) hP hS hA 0 rfl rfl (by decide) (by decide) (by decide) (by decide) (by decide) dX4_init_33 (fun q5 H hMq5 hP hS => ?_)
  refine rw_cs (k := 4) (n := 6168) (by decide) (by decide) ?_
  obtain ⟨M_25, eM_25⟩ : ∃ Z, Z = mw_up M_20 q5 (.inl (k 0, 3072, .inl (fun _ => 0))) := ⟨_, rfl⟩
  have hP : mw_Q (mw_A M s.heap.size) D vwCl M_25 H := by rw [eM_25]; exact hP
  have nf_26_q5 : a ≠ q5 := mw_ne hMq5 f_21
  have f_26 : M_25 a = some (.inr (5, [.int 0, .ref q1, .ref q2, .int 0, .ref q4, .null, .null, .int 0, .null, .null, .int 0, .null, .int 0, .int 0])) := by rw [eM_25, mw_up_n nf_26_q5]; exact f_21
  have nf_27_q5 : q1 ≠ q5 := mw_ne hMq5 f_22
  have f_27 : M_25 q1 = some (.inl ((k 0), 3072, .inl (fun _ => 0))) := by rw [eM_25, mw_up_n nf_27_q5]; exact f_22
  have nf_28_q5 : q2 ≠ q5 := mw_ne hMq5 f_23
  have f_28 : M_25 q2 = some (.inl ((k 0), 12, .inl (fun _ => 0))) := by rw [eM_25, mw_up_n nf_28_q5]; exact f_23
  have nf_29_q5 : q4 ≠ q5 := mw_ne hMq5 f_24
  have f_29 : M_25 q4 = some (.inl ((k 0), 12, .inl (fun _ => 0))) := by rw [eM_25, mw_up_n nf_29_q5]; exact f_24
  have f_30 : M_25 q5 = some (.inl (k 0, 3072, .inl (fun _ => 0))) := by rw [eM_25]; exact mw_up_s
  refine mw_putF (ty := .array .int) (v := .ref q5) (ci := 5) (T := TX4) (N := 14) (C := RX4) hE iX4_init_X4 tyX4 tyX4_ok nmX4 hP hS f_26 rfl 5 (by decide) (hE.2.2.1 _ mX4_init_f19) rfl rfl hin rfl (by decide +kernel) rfl rfl (Nat.le_of_ble_eq_true rfl) dX4_init_35 (fun H locs hP hS => ?_)
  obtain ⟨M_31, eM_31⟩ : ∃ Z, Z = mw_up M_25 a (.inr (5, [.int 0, .ref q1, .ref q2, .int 0, .ref q4, .ref q5, .null, .int 0, .null, .null, .int 0, .null, .int 0, .int 0])) := ⟨_, rfl⟩
  have hP : mw_Q (mw_A M s.heap.size) D vwCl M_31 H := by rw [eM_31]; exact hP
  have f_32 : M_31 a = some (.inr (5, [.int 0, .ref q1, .ref q2, .int 0, .ref q4, .ref q5, .null, .int 0, .null, .null, .int 0, .null, .int 0, .int 0])) := by rw [eM_31]; exact mw_up_s
  have f_33 : M_31 q1 = some (.inl ((k 0), 3072, .inl (fun _ => 0))) := by rw [eM_31, mw_up_n (Ne.symm nf_2_q1)]; exact f_27
  have f_34 : M_31 q2 = some (.inl ((k 0), 12, .inl (fun _ => 0))) := by rw [eM_31, mw_up_n (Ne.symm nf_8_q2)]; exact f_28
  have f_35 : M_31 q4 = some (.inl ((k 0), 12, .inl (fun _ => 0))) := by rw [eM_31, mw_up_n (Ne.symm nf_16_q4)]; exact f_29
  have f_36 : M_31 q5 = some (.inl ((k 0), 3072, .inl (fun _ => 0))) := by rw [eM_31, mw_up_n (Ne.symm nf_26_q5)]; exact f_30
  refine lv_aload_n hx hb dX4_init_38 rfl (lv_at hl 0 rfl) ?_
  refine lv_bipush (v := nI 12) hx hb dX4_init_39 (by decide) ?_
  refine mw_newa (atype := .int) (N' := 12) (a0 := (12, .inl (fun _ => 0))) hE (hE.2.2.1 _ mX4_init_arrint) rfl (fun _ _ h => h) hP hS hA 0 rfl rfl (by decide) (by decide) (by decide) (by decide) (by decide) dX4_init_41 (fun q6 H hMq6 hP hS => ?_)
  refine rw_cs (k := 5) (n := 6180) (by decide) (by decide) ?_
  obtain ⟨M_37, eM_37⟩ : ∃ Z, Z = mw_up M_31 q6 (.inl (k 0, 12, .inl (fun _ => 0))) := ⟨_, rfl⟩
  have hP : mw_Q (mw_A M s.heap.size) D vwCl M_37 H := by rw [eM_37]; exact hP
  have nf_38_q6 : a ≠ q6 := mw_ne hMq6 f_32
  have f_38 : M_37 a = some (.inr (5, [.int 0, .ref q1, .ref q2, .int 0, .ref q4, .ref q5, .null, .int 0, .null, .null, .int 0, .null, .int 0, .int 0])) := by rw [eM_37, mw_up_n nf_38_q6]; exact f_32
  have nf_39_q6 : q1 ≠ q6 := mw_ne hMq6 f_33
  have f_39 : M_37 q1 = some (.inl ((k 0), 3072, .inl (fun _ => 0))) := by rw [eM_37, mw_up_n nf_39_q6]; exact f_33
  have nf_40_q6 : q2 ≠ q6 := mw_ne hMq6 f_34
  have f_40 : M_37 q2 = some (.inl ((k 0), 12, .inl (fun _ => 0))) := by rw [eM_37, mw_up_n nf_40_q6]; exact f_34
  have nf_41_q6 : q4 ≠ q6 := mw_ne hMq6 f_35
  have f_41 : M_37 q4 = some (.inl ((k 0), 12, .inl (fun _ => 0))) := by rw [eM_37, mw_up_n nf_41_q6]; exact f_35
  have nf_42_q6 : q5 ≠ q6 := mw_ne hMq6 f_36
  have f_42 : M_37 q5 = some (.inl ((k 0), 3072, .inl (fun _ => 0))) := by rw [eM_37, mw_up_n nf_42_q6]; exact f_36
  have f_43 : M_37 q6 = some (.inl (k 0, 12, .inl (fun _ => 0))) := by rw [eM_37]; exact mw_up_s
  refine mw_putF (ty := .array .int) (v := .ref q6) (ci := 5) (T := TX4) (N := 14) (C := RX4) hE iX4_init_X4 tyX4 tyX4_ok nmX4 hP hS f_38 rfl 6 (by decide) (hE.2.2.1 _ mX4_init_f22) rfl rfl hin rfl (by decide +kernel) rfl rfl (Nat.le_of_ble_eq_true rfl) dX4_init_43 (fun H locs hP hS => ?_)
  obtain ⟨M_44, eM_44⟩ : ∃ Z, Z = mw_up M_37 a (.inr (5, [.int 0, .ref q1, .ref q2, .int 0, .ref q4, .ref q5, .ref q6, .int 0, .null, .null, .int 0, .null, .int 0, .int 0])) := ⟨_, rfl⟩
  have hP : mw_Q (mw_A M s.heap.size) D vwCl M_44 H := by rw [eM_44]; exact hP
  have f_45 : M_44 a = some (.inr (5, [.int 0, .ref q1, .ref q2, .int 0, .ref q4, .ref q5, .ref q6, .int 0, .null, .null, .int 0, .null, .int 0, .int 0])) := by rw [eM_44]; exact mw_up_s
  have f_46 : M_44 q1 = some (.inl ((k 0), 3072, .inl (fun _ => 0))) := by rw [eM_44, mw_up_n (Ne.symm nf_2_q1)]; exact f_39
  have f_47 : M_44 q2 = some (.inl ((k 0), 12, .inl (fun _ => 0))) := by rw [eM_44, mw_up_n (Ne.symm nf_8_q2)]; exact f_40
  have f_48 : M_44 q4 = some (.inl ((k 0), 12, .inl (fun _ => 0))) := by rw [eM_44, mw_up_n (Ne.symm nf_16_q4)]; exact f_41
  have f_49 : M_44 q5 = some (.inl ((k 0), 3072, .inl (fun _ => 0))) := by rw [eM_44, mw_up_n (Ne.symm nf_26_q5)]; exact f_42
  have f_50 : M_44 q6 = some (.inl ((k 0), 12, .inl (fun _ => 0))) := by rw [eM_44, mw_up_n (Ne.symm nf_38_q6)]; exact f_43
  refine lv_aload_n hx hb dX4_init_46 rfl (lv_at hl 0 rfl) ?_
  refine lv_sipush (v := nI 1600) hx hb dX4_init_47 (by decide) ?_
  refine mw_newa (atype := .int) (N' := 1600) (a0 := (1600, .inl (fun _ => 0))) hE (hE.2.2.1 _ mX4_init_arrint) rfl (fun _ _ h => h) hP hS hA 0 rfl rfl (by decide) (by decide) (by decide) (by decide) (by decide) dX4_init_50 (fun q8 H hMq8 hP hS => ?_)
  refine rw_cs (k := 6) (n := 7780) (by decide) (by decide) ?_
  obtain ⟨M_51, eM_51⟩ : ∃ Z, Z = mw_up M_44 q8 (.inl (k 0, 1600, .inl (fun _ => 0))) := ⟨_, rfl⟩
  have hP : mw_Q (mw_A M s.heap.size) D vwCl M_51 H := by rw [eM_51]; exact hP
  have nf_52_q8 : a ≠ q8 := mw_ne hMq8 f_45
  have f_52 : M_51 a = some (.inr (5, [.int 0, .ref q1, .ref q2, .int 0, .ref q4, .ref q5, .ref q6, .int 0, .null, .null, .int 0, .null, .int 0, .int 0])) := by rw [eM_51, mw_up_n nf_52_q8]; exact f_45
  have nf_53_q8 : q1 ≠ q8 := mw_ne hMq8 f_46
  have f_53 : M_51 q1 = some (.inl ((k 0), 3072, .inl (fun _ => 0))) := by rw [eM_51, mw_up_n nf_53_q8]; exact f_46
  have nf_54_q8 : q2 ≠ q8 := mw_ne hMq8 f_47
  have f_54 : M_51 q2 = some (.inl ((k 0), 12, .inl (fun _ => 0))) := by rw [eM_51, mw_up_n nf_54_q8]; exact f_47
  have nf_55_q8 : q4 ≠ q8 := mw_ne hMq8 f_48
  have f_55 : M_51 q4 = some (.inl ((k 0), 12, .inl (fun _ => 0))) := by rw [eM_51, mw_up_n nf_55_q8]; exact f_48
  have nf_56_q8 : q5 ≠ q8 := mw_ne hMq8 f_49
  have f_56 : M_51 q5 = some (.inl ((k 0), 3072, .inl (fun _ => 0))) := by rw [eM_51, mw_up_n nf_56_q8]; exact f_49
  have nf_57_q8 : q6 ≠ q8 := mw_ne hMq8 f_50
  have f_57 : M_51 q6 = some (.inl ((k 0), 12, .inl (fun _ => 0))) := by rw [eM_51, mw_up_n nf_57_q8]; exact f_50
  have f_58 : M_51 q8 = some (.inl (k 0, 1600, .inl (fun _ => 0))) := by rw [eM_51]; exact mw_up_s
  refine mw_putF (ty := .array .int) (v := .ref q8) (ci := 5) (T := TX4) (N := 14) (C := RX4) hE iX4_init_X4 tyX4 tyX4_ok nmX4 hP hS f_52 rfl 8 (by decide) (hE.2.2.1 _ mX4_init_f25) rfl rfl hin rfl (by decide +kernel) rfl rfl (Nat.le_of_ble_eq_true rfl) dX4_init_52 (fun H locs hP hS => ?_)
  obtain ⟨M_59, eM_59⟩ : ∃ Z, Z = mw_up M_51 a (.inr (5, [.int 0, .ref q1, .ref q2, .int 0, .ref q4, .ref q5, .ref q6, .int 0, .ref q8, .null, .int 0, .null, .int 0, .int 0])) := ⟨_, rfl⟩
  have hP : mw_Q (mw_A M s.heap.size) D vwCl M_59 H := by rw [eM_59]; exact hP
  have f_60 : M_59 a = some (.inr (5, [.int 0, .ref q1, .ref q2, .int 0, .ref q4, .ref q5, .ref q6, .int 0, .ref q8, .null, .int 0, .null, .int 0, .int 0])) := by rw [eM_59]; exact mw_up_s
  have f_61 : M_59 q1 = some (.inl ((k 0), 3072, .inl (fun _ => 0))) := by rw [eM_59, mw_up_n (Ne.symm nf_2_q1)]; exact f_53
  have f_62 : M_59 q2 = some (.inl ((k 0), 12, .inl (fun _ => 0))) := by rw [eM_59, mw_up_n (Ne.symm nf_8_q2)]; exact f_54
  have f_63 : M_59 q4 = some (.inl ((k 0), 12, .inl (fun _ => 0))) := by rw [eM_59, mw_up_n (Ne.symm nf_16_q4)]; exact f_55
  have f_64 : M_59 q5 = some (.inl ((k 0), 3072, .inl (fun _ => 0))) := by rw [eM_59, mw_up_n (Ne.symm nf_26_q5)]; exact f_56
  have f_65 : M_59 q6 = some (.inl ((k 0), 12, .inl (fun _ => 0))) := by rw [eM_59, mw_up_n (Ne.symm nf_38_q6)]; exact f_57
  have f_66 : M_59 q8 = some (.inl ((k 0), 1600, .inl (fun _ => 0))) := by rw [eM_59, mw_up_n (Ne.symm nf_52_q8)]; exact f_58
  refine lv_aload_n hx hb dX4_init_55 rfl (lv_at hl 0 rfl) ?_
  refine lv_bipush (v := nI 40) hx hb dX4_init_56 (by decide) ?_
  refine mw_newa (atype := .int) (N' := 40) (a0 := (40, .inl (fun _ => 0))) hE (hE.2.2.1 _ mX4_init_arrint) rfl (fun _ _ h => h) hP hS hA 0 rfl rfl (by decide) (by decide) (by decide) (by decide) (by decide) dX4_init_58 (fun q9 H hMq9 hP hS => ?_)
  refine rw_cs (k := 7) (n := 7820) (by decide) (by decide) ?_
  obtain ⟨M_67, eM_67⟩ : ∃ Z, Z = mw_up M_59 q9 (.inl (k 0, 40, .inl (fun _ => 0))) := ⟨_, rfl⟩
  have hP : mw_Q (mw_A M s.heap.size) D vwCl M_67 H := by rw [eM_67]; exact hP
  have nf_68_q9 : a ≠ q9 := mw_ne hMq9 f_60
  have f_68 : M_67 a = some (.inr (5, [.int 0, .ref q1, .ref q2, .int 0, .ref q4, .ref q5, .ref q6, .int 0, .ref q8, .null, .int 0, .null, .int 0, .int 0])) := by rw [eM_67, mw_up_n nf_68_q9]; exact f_60
  have nf_69_q9 : q1 ≠ q9 := mw_ne hMq9 f_61
  have f_69 : M_67 q1 = some (.inl ((k 0), 3072, .inl (fun _ => 0))) := by rw [eM_67, mw_up_n nf_69_q9]; exact f_61
  have nf_70_q9 : q2 ≠ q9 := mw_ne hMq9 f_62
  have f_70 : M_67 q2 = some (.inl ((k 0), 12, .inl (fun _ => 0))) := by rw [eM_67, mw_up_n nf_70_q9]; exact f_62
  have nf_71_q9 : q4 ≠ q9 := mw_ne hMq9 f_63
  have f_71 : M_67 q4 = some (.inl ((k 0), 12, .inl (fun _ => 0))) := by rw [eM_67, mw_up_n nf_71_q9]; exact f_63
  have nf_72_q9 : q5 ≠ q9 := mw_ne hMq9 f_64
  have f_72 : M_67 q5 = some (.inl ((k 0), 3072, .inl (fun _ => 0))) := by rw [eM_67, mw_up_n nf_72_q9]; exact f_64
  have nf_73_q9 : q6 ≠ q9 := mw_ne hMq9 f_65
  have f_73 : M_67 q6 = some (.inl ((k 0), 12, .inl (fun _ => 0))) := by rw [eM_67, mw_up_n nf_73_q9]; exact f_65
  have nf_74_q9 : q8 ≠ q9 := mw_ne hMq9 f_66
  have f_74 : M_67 q8 = some (.inl ((k 0), 1600, .inl (fun _ => 0))) := by rw [eM_67, mw_up_n nf_74_q9]; exact f_66
  have f_75 : M_67 q9 = some (.inl (k 0, 40, .inl (fun _ => 0))) := by rw [eM_67]; exact mw_up_s
  refine mw_putF (ty := .array .int) (v := .ref q9) (ci := 5) (T := TX4) (N := 14) (C := RX4) hE iX4_init_X4 tyX4 tyX4_ok nmX4 hP hS f_68 rfl 9 (by decide) (hE.2.2.1 _ mX4_init_f28) rfl rfl hin rfl (by decide +kernel) rfl rfl (Nat.le_of_ble_eq_true rfl) dX4_init_60 (fun H locs hP hS => ?_)
  obtain ⟨M_76, eM_76⟩ : ∃ Z, Z = mw_up M_67 a (.inr (5, [.int 0, .ref q1, .ref q2, .int 0, .ref q4, .ref q5, .ref q6, .int 0, .ref q8, .ref q9, .int 0, .null, .int 0, .int 0])) := ⟨_, rfl⟩
  have hP : mw_Q (mw_A M s.heap.size) D vwCl M_76 H := by rw [eM_76]; exact hP
  have f_77 : M_76 a = some (.inr (5, [.int 0, .ref q1, .ref q2, .int 0, .ref q4, .ref q5, .ref q6, .int 0, .ref q8, .ref q9, .int 0, .null, .int 0, .int 0])) := by rw [eM_76]; exact mw_up_s
  have f_78 : M_76 q1 = some (.inl ((k 0), 3072, .inl (fun _ => 0))) := by rw [eM_76, mw_up_n (Ne.symm nf_2_q1)]; exact f_69
  have f_79 : M_76 q2 = some (.inl ((k 0), 12, .inl (fun _ => 0))) := by rw [eM_76, mw_up_n (Ne.symm nf_8_q2)]; exact f_70
  have f_80 : M_76 q4 = some (.inl ((k 0), 12, .inl (fun _ => 0))) := by rw [eM_76, mw_up_n (Ne.symm nf_16_q4)]; exact f_71
  have f_81 : M_76 q5 = some (.inl ((k 0), 3072, .inl (fun _ => 0))) := by rw [eM_76, mw_up_n (Ne.symm nf_26_q5)]; exact f_72
  have f_82 : M_76 q6 = some (.inl ((k 0), 12, .inl (fun _ => 0))) := by rw [eM_76, mw_up_n (Ne.symm nf_38_q6)]; exact f_73
  have f_83 : M_76 q8 = some (.inl ((k 0), 1600, .inl (fun _ => 0))) := by rw [eM_76, mw_up_n (Ne.symm nf_52_q8)]; exact f_74
  have f_84 : M_76 q9 = some (.inl ((k 0), 40, .inl (fun _ => 0))) := by rw [eM_76, mw_up_n (Ne.symm nf_68_q9)]; exact f_75
  refine lv_aload_n hx hb dX4_init_63 rfl (lv_at hl 0 rfl) ?_
  refine lv_sipush (v := nI 200) hx hb dX4_init_64 (by decide) ?_
  refine mw_newa (atype := .int) (N' := 200) (a0 := (200, .inl (fun _ => 0))) hE (hE.2.2.1 _ mX4_init_arrint) rfl (fun _ _ h => h) hP hS hA 0 rfl rfl (by decide) (by decide) (by decide) (by decide) (by decide) dX4_init_67 (fun q11 H hMq11 hP hS => ?_)
  refine rw_cs (k := 8) (n := 8020) (by decide) (by decide) ?_
  obtain ⟨M_85, eM_85⟩ : ∃ Z, Z = mw_up M_76 q11 (.inl (k 0, 200, .inl (fun _ => 0))) := ⟨_, rfl⟩
  have hP : mw_Q (mw_A M s.heap.size) D vwCl M_85 H := by rw [eM_85]; exact hP
  have nf_86_q11 : a ≠ q11 := mw_ne hMq11 f_77
  have f_86 : M_85 a = some (.inr (5, [.int 0, .ref q1, .ref q2, .int 0, .ref q4, .ref q5, .ref q6, .int 0, .ref q8, .ref q9, .int 0, .null, .int 0, .int 0])) := by rw [eM_85, mw_up_n nf_86_q11]; exact f_77
  have nf_87_q11 : q1 ≠ q11 := mw_ne hMq11 f_78
  have f_87 : M_85 q1 = some (.inl ((k 0), 3072, .inl (fun _ => 0))) := by rw [eM_85, mw_up_n nf_87_q11]; exact f_78
  have nf_88_q11 : q2 ≠ q11 := mw_ne hMq11 f_79
  have f_88 : M_85 q2 = some (.inl ((k 0), 12, .inl (fun _ => 0))) := by rw [eM_85, mw_up_n nf_88_q11]; exact f_79
  have nf_89_q11 : q4 ≠ q11 := mw_ne hMq11 f_80
  have f_89 : M_85 q4 = some (.inl ((k 0), 12, .inl (fun _ => 0))) := by rw [eM_85, mw_up_n nf_89_q11]; exact f_80
  have nf_90_q11 : q5 ≠ q11 := mw_ne hMq11 f_81
  have f_90 : M_85 q5 = some (.inl ((k 0), 3072, .inl (fun _ => 0))) := by rw [eM_85, mw_up_n nf_90_q11]; exact f_81
  have nf_91_q11 : q6 ≠ q11 := mw_ne hMq11 f_82
  have f_91 : M_85 q6 = some (.inl ((k 0), 12, .inl (fun _ => 0))) := by rw [eM_85, mw_up_n nf_91_q11]; exact f_82
  have nf_92_q11 : q8 ≠ q11 := mw_ne hMq11 f_83
  have f_92 : M_85 q8 = some (.inl ((k 0), 1600, .inl (fun _ => 0))) := by rw [eM_85, mw_up_n nf_92_q11]; exact f_83
  have nf_93_q11 : q9 ≠ q11 := mw_ne hMq11 f_84
  have f_93 : M_85 q9 = some (.inl ((k 0), 40, .inl (fun _ => 0))) := by rw [eM_85, mw_up_n nf_93_q11]; exact f_84
  have f_94 : M_85 q11 = some (.inl (k 0, 200, .inl (fun _ => 0))) := by rw [eM_85]; exact mw_up_s
  refine mw_putF (ty := .array .int) (v := .ref q11) (ci := 5) (T := TX4) (N := 14) (C := RX4) hE iX4_init_X4 tyX4 tyX4_ok nmX4 hP hS f_86 rfl 11 (by decide) (hE.2.2.1 _ mX4_init_f31) rfl rfl hin rfl (by decide +kernel) rfl rfl (Nat.le_of_ble_eq_true rfl) dX4_init_69 (fun H locs hP hS => ?_)
  obtain ⟨M_95, eM_95⟩ : ∃ Z, Z = mw_up M_85 a (.inr (5, [.int 0, .ref q1, .ref q2, .int 0, .ref q4, .ref q5, .ref q6, .int 0, .ref q8, .ref q9, .int 0, .ref q11, .int 0, .int 0])) := ⟨_, rfl⟩
  have hP : mw_Q (mw_A M s.heap.size) D vwCl M_95 H := by rw [eM_95]; exact hP
  have f_96 : M_95 a = some (.inr (5, [.int 0, .ref q1, .ref q2, .int 0, .ref q4, .ref q5, .ref q6, .int 0, .ref q8, .ref q9, .int 0, .ref q11, .int 0, .int 0])) := by rw [eM_95]; exact mw_up_s
  have f_97 : M_95 q1 = some (.inl ((k 0), 3072, .inl (fun _ => 0))) := by rw [eM_95, mw_up_n (Ne.symm nf_2_q1)]; exact f_87
  have f_98 : M_95 q2 = some (.inl ((k 0), 12, .inl (fun _ => 0))) := by rw [eM_95, mw_up_n (Ne.symm nf_8_q2)]; exact f_88
  have f_99 : M_95 q4 = some (.inl ((k 0), 12, .inl (fun _ => 0))) := by rw [eM_95, mw_up_n (Ne.symm nf_16_q4)]; exact f_89
  have f_100 : M_95 q5 = some (.inl ((k 0), 3072, .inl (fun _ => 0))) := by rw [eM_95, mw_up_n (Ne.symm nf_26_q5)]; exact f_90
  have f_101 : M_95 q6 = some (.inl ((k 0), 12, .inl (fun _ => 0))) := by rw [eM_95, mw_up_n (Ne.symm nf_38_q6)]; exact f_91
  have f_102 : M_95 q8 = some (.inl ((k 0), 1600, .inl (fun _ => 0))) := by rw [eM_95, mw_up_n (Ne.symm nf_52_q8)]; exact f_92
  have f_103 : M_95 q9 = some (.inl ((k 0), 40, .inl (fun _ => 0))) := by rw [eM_95, mw_up_n (Ne.symm nf_68_q9)]; exact f_93
  have f_104 : M_95 q11 = some (.inl ((k 0), 200, .inl (fun _ => 0))) := by rw [eM_95, mw_up_n (Ne.symm nf_86_q11)]; exact f_94
  obtain ⟨ad, ead⟩ : ∃ ad : Nat → Nat, ad = fun j => match j with | 0 => a | 1 => q1 | 2 => q2 | 4 => q4 | 5 => q5 | 6 => q6 | 8 => q8 | 9 => q9 | 11 => q11 | _ => 0 := ⟨_, rfl⟩
  have ed_0 : ad 0 = a := congrFun ead 0
  have ed_1 : ad 1 = q1 := congrFun ead 1
  have ed_2 : ad 2 = q2 := congrFun ead 2
  have ed_4 : ad 4 = q4 := congrFun ead 4
  have ed_5 : ad 5 = q5 := congrFun ead 5
  have ed_6 : ad 6 = q6 := congrFun ead 6
  have ed_8 : ad 8 = q8 := congrFun ead 8
  have ed_9 : ad 9 = q9 := congrFun ead 9
  have ed_11 : ad 11 = q11 := congrFun ead 11
  have hN : mo_N ad := ⟨fun j hj => by simp only [mo_ks, List.mem_cons, List.not_mem_nil, or_false] at hj; rcases hj with rfl | rfl | rfl | rfl | rfl | rfl | rfl | rfl <;> simp [ed_0, ed_1, ed_2, ed_4, ed_5, ed_6, ed_8, ed_9, ed_11, nf_2_q1, nf_8_q2, nf_16_q4, nf_26_q5, nf_38_q6, nf_52_q8, nf_68_q9, nf_86_q11, nf_9_q2, nf_17_q4, nf_27_q5, nf_39_q6, nf_53_q8, nf_69_q9, nf_87_q11, nf_18_q4, nf_28_q5, nf_40_q6, nf_54_q8, nf_70_q9, nf_88_q11, nf_29_q5, nf_41_q6, nf_55_q8, nf_71_q9, nf_89_q11, nf_42_q6, nf_56_q8, nf_72_q9, nf_90_q11, nf_57_q8, nf_73_q9, nf_91_q11, nf_74_q9, nf_92_q11, nf_93_q11, Ne.symm nf_2_q1, Ne.symm nf_8_q2, Ne.symm nf_16_q4, Ne.symm nf_26_q5, Ne.symm nf_38_q6, Ne.symm nf_52_q8, Ne.symm nf_68_q9, Ne.symm nf_86_q11, Ne.symm nf_9_q2, Ne.symm nf_17_q4, Ne.symm nf_27_q5, Ne.symm nf_39_q6, Ne.symm nf_53_q8, Ne.symm nf_69_q9, Ne.symm nf_87_q11, Ne.symm nf_18_q4, Ne.symm nf_28_q5, Ne.symm nf_40_q6, Ne.symm nf_54_q8, Ne.symm nf_70_q9, Ne.symm nf_88_q11, Ne.symm nf_29_q5, Ne.symm nf_41_q6, Ne.symm nf_55_q8, Ne.symm nf_71_q9, Ne.symm nf_89_q11, Ne.symm nf_42_q6, Ne.symm nf_56_q8, Ne.symm nf_72_q9, Ne.symm nf_90_q11, Ne.symm nf_57_q8, Ne.symm nf_73_q9, Ne.symm nf_91_q11, Ne.symm nf_74_q9, Ne.symm nf_92_q11, Ne.symm nf_93_q11], fun i hi j hj hh => by simp only [mo_ks, List.mem_cons, List.not_mem_nil, or_false] at hi hj; rcases hi with rfl | rfl | rfl | rfl | rfl | rfl | rfl | rfl <;> rcases hj with rfl | rfl | rfl | rfl | rfl | rfl | rfl | rfl <;> first | rfl | (exfalso; revert hh; simp [ed_0, ed_1, ed_2, ed_4, ed_5, ed_6, ed_8, ed_9, ed_11, nf_2_q1, nf_8_q2, nf_16_q4, nf_26_q5, nf_38_q6, nf_52_q8, nf_68_q9, nf_86_q11, nf_9_q2, nf_17_q4, nf_27_q5, nf_39_q6, nf_53_q8, nf_69_q9, nf_87_q11, nf_18_q4, nf_28_q5, nf_40_q6, nf_54_q8, nf_70_q9, nf_88_q11, nf_29_q5, nf_41_q6, nf_55_q8, nf_71_q9, nf_89_q11, nf_42_q6, nf_56_q8, nf_72_q9, nf_90_q11, nf_57_q8, nf_73_q9, nf_91_q11, nf_74_q9, nf_92_q11, nf_93_q11, Ne.symm nf_2_q1, Ne.symm nf_8_q2, Ne.symm nf_16_q4, Ne.symm nf_26_q5, Ne.symm nf_38_q6, Ne.symm nf_52_q8, Ne.symm nf_68_q9, Ne.symm nf_86_q11, Ne.symm nf_9_q2, Ne.symm nf_17_q4, Ne.symm nf_27_q5, Ne.symm nf_39_q6, Ne.symm nf_53_q8, Ne.symm nf_69_q9, Ne.symm nf_87_q11, Ne.symm nf_18_q4, Ne.symm nf_28_q5, Ne.symm nf_40_q6, Ne.symm nf_54_q8, Ne.symm nf_70_q9, Ne.symm nf_88_q11, Ne.symm nf_29_q5, Ne.symm nf_41_q6, Ne.symm nf_55_q8, Ne.symm nf_71_q9, Ne.symm nf_89_q11, Ne.symm nf_42_q6, Ne.symm nf_56_q8, Ne.symm nf_72_q9, Ne.symm nf_90_q11, Ne.symm nf_57_q8, Ne.symm nf_73_q9, Ne.symm nf_91_q11, Ne.symm nf_74_q9, Ne.symm nf_92_q11, Ne.symm nf_93_q11])⟩
  have hsub : ∀ x e, mo_M (k 0) ad (fun _ => 0) (fun _ _ => 0) x = some e → M_95 x = some e := by
    intro x e hx
    unfold mo_M at hx
    by_cases h0 : x = ad 0
    · rw [if_pos h0] at hx; cases hx; rw [h0, ed_0, f_96]; simp [mo_fs, ed_0, ed_1, ed_2, ed_4, ed_5, ed_6, ed_8, ed_9, ed_11]
    · rw [if_neg h0] at hx
      cases hm : mo_at ad x mo_ks with
      | none => rw [hm] at hx; cases hx
      | some j =>
        rw [hm] at hx
        obtain ⟨h1, h2⟩ := mo_at_some mo_ks hm
        simp only [mo_ks, List.mem_cons, List.not_mem_nil, or_false] at h2
        cases hx
        rcases h2 with rfl | rfl | rfl | rfl | rfl | rfl | rfl | rfl
        · rw [h1, ed_1, f_97]; rfl
        · rw [h1, ed_2, f_98]; rfl
        · rw [h1, ed_4, f_99]; rfl
        · rw [h1, ed_5, f_100]; rfl
        · rw [h1, ed_6, f_101]; rfl
        · rw [h1, ed_8, f_102]; rfl
        · rw [h1, ed_9, f_103]; rfl
        · rw [h1, ed_11, f_104]; rfl
  exact mw_vret hE hr hlocks hP hS dX4_init_72 (⟨ad, ed_0, hN, hsub⟩)
