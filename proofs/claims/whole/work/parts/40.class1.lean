set_option maxHeartbeats 4000000 in
set_option maxRecDepth 100000 in
theorem tX1_firstMeaning (l : Launch) (D : va_G) (k : Nat → ClassId) (M : mw) (sz : Nat) (z i : Nat) (hz : z < 3) (hi : i < 256) : Met l yX1_firstMeaning wsX1_firstMeaning ({ frames := 0, cells := 0, slots := 0, locals := 0 }) (va_Pc [.int (nI z), .int (nI i)] (mw_U D vwCl (TY k) M sz)) (va_Qi (fun r M1 => M1 = M ∧ r = fm z i) (mw_B D vwCl M sz) (mw_A M sz)) 0 0 (mw_A M sz) := by
  refine mw_met (cc := cX1_firstMeaning) (maxL := 2) (ret := (some .int)) (lv := [(0, .int (nI z)), (1, .int (nI i))]) (by decide) rfl (Nat.le_of_ble_eq_true rfl) rfl ?_
  intro p e s m below meth c ls hE hr hlocks hin hml hsz hP hS hl
  subst hsz
  have hx := hE.1
  have hb := hE.2.1
  have hA : ∀ q, s.heap.size ≤ q → mw_A M s.heap.size q := fun q h => Or.inr h
  refine lv_iload_n hx hb dX1_firstMeaning_0 rfl (lv_at hl 0 rfl) ?_
  refine lv_if_ne (tgt := 17) hx hb dX1_firstMeaning_1 (by decide) (fun c_1 => ?_) (fun c_1 => ?_)
  · have k_1 : z ≠ 0 := nn_neq (a := z) (b := 0) c_1 (by omega) (by omega)
    refine lv_iload_n hx hb dX1_firstMeaning_17 rfl (lv_at hl 0 rfl) ?_
    refine lv_iconst (v := 1) hx hb dX1_firstMeaning_18 (by decide) ?_
    refine lv_icmp_ne (tgt := 37) hx hb dX1_firstMeaning_19 (by decide) (fun c_19 => ?_) (fun c_19 => ?_)
    · have k_19 : z ≠ 1 := nn_neq (a := z) (b := 1) c_19 (by omega) (by omega)
      refine lv_iconst (v := (-1)) hx hb dX1_firstMeaning_37 (by decide) ?_
      exact mw_iret (v := (-1)) hE hr hlocks hP hS dX1_firstMeaning_38 (⟨rfl, by unfold fm; rw [if_neg k_1, if_neg k_19]⟩)
    · have k_19 : z = 1 := nn_eq (a := z) (b := 1) c_19 (by omega) (by omega)
      refine lv_sipush (v := nI 167) hx hb dX1_firstMeaning_22 (by decide) ?_
      refine lv_iload_n hx hb dX1_firstMeaning_25 rfl (lv_at hl 1 rfl) ?_
      refine lv_imul hx hb dX1_firstMeaning_26 ?_
      refine rw_i (v := nI (167 * i)) (pk_mul _ _) ?_
      refine lv_bipush (v := nI 13) hx hb dX1_firstMeaning_27 (by decide) ?_
      refine lv_iadd hx hb dX1_firstMeaning_29 ?_
      refine rw_i (v := nI ((167 * i) + 13)) (nI_add _ _) ?_
      refine lv_sipush (v := nI 256) hx hb dX1_firstMeaning_30 (by decide) ?_
      refine lv_irem hx hb dX1_firstMeaning_33 (by decide) ?_
      refine rw_i (v := nI ((167 * i + 13) % 256)) (pk_rem (by omega) (by decide) (by decide)) ?_
      refine lv_goto (tgt := 38) hx hb dX1_firstMeaning_34 (by decide) ?_
      exact mw_iret (v := nI ((167 * i + 13) % 256)) hE hr hlocks hP hS dX1_firstMeaning_38 (⟨rfl, by unfold fm; rw [if_neg k_1, if_pos k_19]⟩)
  · have k_1 : z = 0 := nn_eq (a := z) (b := 0) c_1 (by omega) (by omega)
    refine lv_iload_n hx hb dX1_firstMeaning_4 rfl (lv_at hl 1 rfl) ?_
    refine lv_sipush (v := nI 128) hx hb dX1_firstMeaning_5 (by decide) ?_
    refine lv_icmp_ge (tgt := 15) hx hb dX1_firstMeaning_8 (by decide) (fun c_8 => ?_) (fun c_8 => ?_)
    · have k_8 : 128 ≤ i := nn_le (a := 128) (b := i) c_8 (by omega) (by omega)
      refine lv_iconst (v := (-1)) hx hb dX1_firstMeaning_15 (by decide) ?_
      exact mw_iret (v := (-1)) hE hr hlocks hP hS dX1_firstMeaning_16 (⟨rfl, by unfold fm; rw [if_pos k_1, if_neg (by omega)]⟩)
    · have k_8 : i < 128 := nn_nle (a := 128) (b := i) c_8 (by omega) (by omega)
      refine lv_iload_n hx hb dX1_firstMeaning_11 rfl (lv_at hl 1 rfl) ?_
      refine lv_goto (tgt := 16) hx hb dX1_firstMeaning_12 (by decide) ?_
      exact mw_iret (v := nI i) hE hr hlocks hP hS dX1_firstMeaning_16 (⟨rfl, by unfold fm; rw [if_pos k_1, if_pos k_8]⟩)

set_option maxRecDepth 20000 in
theorem mX1_init_f15 : Cond.fieldLink RX1 15 "CodePages$Page" "substitute" "I" ∈ wsX1_init := by decide +kernel
set_option maxRecDepth 20000 in
theorem mX1_init_f9 : Cond.fieldLink RX1 9 "CodePages$Page" "meanings" "[I" ∈ wsX1_init := by decide +kernel
set_option maxRecDepth 20000 in
theorem iX1_init_X1 : ∀ w ∈ u_ws RX1 TX1 2, w ∈ wsX1_init := by decide +kernel
set_option maxRecDepth 20000 in
theorem mX1_init_arrint : Cond.arrayClass .int ∈ wsX1_init := by decide +kernel
set_option maxRecDepth 20000 in
theorem mX1_init_cobj : Cond.code objectInit ⟨#[0xb1]⟩ 1 none ∈ wsX1_init := by decide +kernel
set_option maxRecDepth 20000 in
theorem mX1_init_imobjectInit : Cond.instanceMethod objectInit ∈ wsX1_init := by decide +kernel
set_option maxRecDepth 20000 in
theorem mX1_init_ml3 : Cond.methodLink RX1 3 objectInit ∈ wsX1_init := by decide +kernel
set_option maxHeartbeats 4000000 in
set_option maxRecDepth 100000 in
theorem tX1_init (l : Launch) (D : va_G) (k : Nat → ClassId) (M : mw) (sz : Nat) (a z : Nat) (hz : z < 3) (fa : M a = some (.inr (2, [.null, .int 0]))) : Met l yX1_init wsX1_init ({ frames := 1, cells := 1, slots := 256, locals := 21 }) (va_Pc [.ref a, .int (nI z)] (mw_U D vwCl (TY k) M sz)) (va_Qv (fun M1 => ∃ q, M q = none ∧ M1 a = some (.inr (2, [.ref q, .int (nI 63)])) ∧ M1 q = some (.inl (k 0, 256, .inl (blk (fun _ => 0) 0 256 (fm z)))) ∧ ∀ x, x ≠ a → x ≠ q → M1 x = M x) (mw_B D vwCl M sz) (mw_A M sz)) 1 256 (mw_A M sz) := by
  refine mw_met (cc := cX1_init) (maxL := 3) (ret := none) (lv := [(0, .ref a), (1, .int (nI z))]) (by decide) rfl (Nat.le_of_ble_eq_true rfl) rfl ?_
  intro p e s m below meth c ls hE hr hlocks hin hml hsz hP hS hl
  subst hsz
  have hx := hE.1
  have hb := hE.2.1
  have hA : ∀ q, s.heap.size ≤ q → mw_A M s.heap.size q := fun q h => Or.inr h
  obtain ⟨Q, hQ⟩ : ∃ Q : State → Prop, Q = MQ below (va_Qv (fun M1 => ∃ q, M q = none ∧ M1 a = some (.inr (2, [.ref q, .int (nI 63)])) ∧ M1 q = some (.inl (k 0, 256, .inl (blk (fun _ => 0) 0 256 (fm z)))) ∧ ∀ x, x ≠ a → x ≠ q → M1 x = M x) (mw_B D vwCl M s.heap.size) (mw_A M s.heap.size)) ([.ref a, .int (nI z)] : List Value).toArray s 1 256 (mw_A M s.heap.size) := ⟨_, rfl⟩
  rw [← hQ]
  refine lv_aload_n hx hb dX1_init_0 rfl (lv_at hl 0 rfl) ?_
  refine W.objInit hx hb hE.2.2.2.1 (hE.2.2.1 _ mX1_init_ml3) (hE.2.2.1 _ mX1_init_imobjectInit) (hE.2.2.1 _ mX1_init_cobj) rfl (by rw [hml]; exact hl.1) rfl dX1_init_1 (Nat.le_of_ble_eq_true rfl) (Nat.le_of_ble_eq_true rfl) ?_
  refine W.eq (g2 := F0 m 4 ls []) rfl ?_
  refine lv_aload_n hx hb dX1_init_4 rfl (lv_at hl 0 rfl) ?_
  refine lv_sipush (v := nI 256) hx hb dX1_init_5 (by decide) ?_
  refine mw_newa (atype := .int) (N' := 256) (a0 := (256, .inl (fun _ => 0))) hE (hE.2.2.1 _ mX1_init_arrint) rfl (fun _ _ h => h) hP hS hA 0 rfl rfl (by decide) (by decide) (by decide) (by decide) (by decide) dX1_init_8 (fun q9 H hMq9 hP hS => ?_)
  refine rw_cs (k := 1) (n := 256) (by decide) (by decide) ?_
  obtain ⟨M_1, eM_1⟩ : ∃ Z, Z = mw_up M q9 (.inl (k 0, 256, .inl (fun _ => 0))) := ⟨_, rfl⟩
  have hP : mw_Q (mw_A M s.heap.size) D vwCl M_1 H := by rw [eM_1]; exact hP
  have nf_2_q9 : a ≠ q9 := mw_ne hMq9 fa
  have f_2 : M_1 a = some (.inr (2, [.null, .int 0])) := by rw [eM_1, mw_up_n nf_2_q9]; exact fa
  have f_3 : M_1 q9 = some (.inl (k 0, 256, .inl (fun _ => 0))) := by rw [eM_1]; exact mw_up_s
  refine mw_putF (ty := .array .int) (v := .ref q9) (ci := 2) (T := TX1) (N := 2) (C := RX1) hE iX1_init_X1 tyX1 tyX1_ok nmX1 hP hS f_2 rfl 0 (by decide) (hE.2.2.1 _ mX1_init_f9) rfl rfl hin rfl (by decide +kernel) rfl rfl (Nat.le_of_ble_eq_true rfl) dX1_init_10 (fun H locs hP hS => ?_)
  obtain ⟨M_4, eM_4⟩ : ∃ Z, Z = mw_up M_1 a (.inr (2, [.ref q9, .int 0])) := ⟨_, rfl⟩
  have hP : mw_Q (mw_A M s.heap.size) D vwCl M_4 H := by rw [eM_4]; exact hP
  have f_5 : M_4 a = some (.inr (2, [.ref q9, .int 0])) := by rw [eM_4]; exact mw_up_s
  have f_6 : M_4 q9 = some (.inl ((k 0), 256, .inl (fun _ => 0))) := by rw [eM_4, mw_up_n (Ne.symm nf_2_q9)]; exact f_3
  have hq9 := hMq9
  refine lv_aload_n hx hb dX1_init_13 rfl (lv_at hl 0 rfl) ?_
  refine lv_bipush (v := nI 63) hx hb dX1_init_14 (by decide) ?_
  refine mw_put (ty := .int) (v := .int (nI 63)) (ci := 2) (T := TX1) (N := 2) (C := RX1) hE iX1_init_X1 tyX1 tyX1_ok nmX1 hP hS f_5 rfl 1 (by decide) (hE.2.2.1 _ mX1_init_f15) rfl rfl (by decide +kernel) rfl rfl (Nat.le_of_ble_eq_true rfl) dX1_init_16 (fun H locs hP hS => ?_)
  obtain ⟨M_7, eM_7⟩ : ∃ Z, Z = mw_up M_4 a (.inr (2, [.ref q9, .int (nI 63)])) := ⟨_, rfl⟩
  have hP : mw_Q (mw_A M s.heap.size) D vwCl M_7 H := by rw [eM_7]; exact hP
  have f_8 : M_7 a = some (.inr (2, [.ref q9, .int (nI 63)])) := by rw [eM_7]; exact mw_up_s
  have f_9 : M_7 q9 = some (.inl ((k 0), 256, .inl (fun _ => 0))) := by rw [eM_7, mw_up_n (Ne.symm nf_2_q9)]; exact f_6
  refine lv_iconst (v := 0) hx hb dX1_init_19 (by decide) ?_
  refine lv_istore_n (lv' := [(2, .int 0), (0, .ref a), (1, .int (nI z))]) hx hb dX1_init_20 rfl hl (by decide) rfl (fun ls hl => ?_)
  have hfr0 : ∀ x, x ≠ a → x ≠ q9 → M_7 x = M x := fun x h1 h2 => by rw [eM_7, mw_up_n h1, eM_4, mw_up_n h1, eM_1, mw_up_n h2]
  have lp_21 : ∀ (fu : Nat) (i : Nat) (M1 : mw), (i ≤ 256) → (M1 a = some (.inr (2, [.ref q9, .int (nI 63)]))) → (M1 q9 = some (.inl (k 0, 256, .inl (blk (fun _ => 0) 0 i (fm z))))) → (∀ x, x ≠ a → x ≠ q9 → M1 x = M x) → 256 - i < fu → ∀ (H : Heap) (locs : List Loc), mw_Q (mw_A M s.heap.size) D vwCl M1 H → va_S (mw_A M s.heap.size) s.heap H locs → ∀ ls : Array Slot, lv_has ls 3 [(0, .ref a), (1, .int (nI z)), (2, .int (nI i))] → W p l e ({ frames := 1, cells := 1, slots := 256, locals := 21 } : Room) s m ([.ref a, .int (nI z)] : List Value).toArray below meth c H locs 1 256 Q (F0 m 21 ls []) := by
    intro fu
    induction fu with
    | zero => intro i M1 hi g1 g2 hf hn; exact absurd hn (Nat.not_lt_zero _)
    | succ fu ih_21 =>
      intro i M1 hi g1 g2 hf hn H locs hP hS ls hl
      refine lv_iload_n hx hb dX1_init_21 rfl (lv_at hl 2 rfl) ?_
      refine lv_sipush (v := nI 256) hx hb dX1_init_22 (by decide) ?_
      refine lv_icmp_ge (tgt := 45) hx hb dX1_init_25 (by decide) (fun c_25 => ?_) (fun c_25 => ?_)
      · have k_25 : 256 ≤ i := nn_le (a := 256) (b := i) c_25 (by omega) (by omega)
        rw [hQ]
        exact mw_vret hE hr hlocks hP hS dX1_init_45 (⟨q9, hq9, g1, by rw [g2, show i = 256 by omega], hf⟩)
      · have k_25 : i < 256 := nn_nle (a := 256) (b := i) c_25 (by omega) (by omega)
        refine lv_aload_n hx hb dX1_init_28 rfl (lv_at hl 0 rfl) ?_
        refine mw_get (v := .ref q9) (ci := 2) (T := TX1) (N := 2) (C := RX1) hE iX1_init_X1 hP g1 rfl 0 (by decide) (hE.2.2.1 _ mX1_init_f9) rfl rfl dX1_init_29 ?_
        refine lv_iload_n hx hb dX1_init_32 rfl (lv_at hl 2 rfl) ?_
        refine lv_iload_n hx hb dX1_init_33 rfl (lv_at hl 1 rfl) ?_
        refine lv_iload_n hx hb dX1_init_34 rfl (lv_at hl 2 rfl) ?_
        refine mw_calli hP hS hA (va_runS (As := [.int (nI z), .int (nI i)]) (rest := [.int (nI i), .ref q9]) ⟨hx, hb, hml, hE.2.2.2.1, hE.2.2.1⟩ (tX1_firstMeaning l D k _ _ z i hz (by omega)) (va_cwS 2 hE.2.2.1 gX1_init_X1_firstMeaning rfl rfl rfl (by decide +kernel) ⟨(Nat.le_of_ble_eq_true rfl), (Nat.le_of_ble_eq_true rfl)⟩) (mw_preS hE hP [.int (nI z), .int (nI i)]) rfl rfl hl.1 rfl (lv_room (Nat.le_of_ble_eq_true rfl)) dX1_init_35 ⟨(Nat.le_of_ble_eq_true rfl), (Nat.le_of_ble_eq_true rfl)⟩) (fun r_11 M2 H locs hw hP hS => ?_)
        obtain ⟨hM2, er_11⟩ := hw
        rw [hM2] at hP
        refine rw_iast hE hP hS 0 g2 rfl (by decide) dX1_init_38 (by omega) (fun H locs hP hS => ?_)
        obtain ⟨M_12, eM_12⟩ : ∃ Z, Z = mw_up M1 q9 (.inl ((k 0), 256, .inl (upd (blk (fun _ => 0) 0 i (fm z)) i r_11))) := ⟨_, rfl⟩
        have hP : mw_Q (mw_A M s.heap.size) D vwCl M_12 H := by rw [eM_12]; exact hP
        have f_13 : M_12 a = some (.inr (2, [.ref q9, .int (nI 63)])) := by rw [eM_12, mw_up_n nf_2_q9]; exact g1
        have f_14 : M_12 q9 = some (.inl ((k 0), 256, .inl (upd (blk (fun _ => 0) 0 i (fm z)) i r_11))) := by rw [eM_12]; exact mw_up_s
        refine lv_iinc (v := nI (i + 1)) (lv' := [(2, .int (nI (i + 1))), (0, .ref a), (1, .int (nI z))]) hx hb dX1_init_39 hl (k := 2) rfl (nI_1 i) (by decide) rfl (fun ls hl => ?_)
        refine lv_goto (tgt := 21) hx hb dX1_init_42 (by decide) ?_
        have hfr9 : ∀ x, x ≠ a → x ≠ q9 → M_12 x = M x := fun x h1 h2 => by rw [eM_12, mw_up_n h2]; exact hf x h1 h2
        exact ih_21 (i + 1) M_12 (by omega) (f_13) (by rw [f_14, wh_nxt (n := i) er_11 (by omega)]) (hfr9) (by omega) H locs hP hS ls (lv_sub hl [1, 2, 0] rfl)
  exact lp_21 (257) 0 M_7 (by omega) (f_8) (by rw [f_9, blk_0]) (hfr0) (by omega) _ _ hP hS ls (lv_sub hl [1, 2, 0] rfl)

set_option maxRecDepth 20000 in
theorem mX0_sortKey_k31 : Cond.constant RX0 31 (65536) ∈ wsX0_sortKey := by decide +kernel
set_option maxHeartbeats 4000000 in
set_option maxRecDepth 100000 in
theorem tX0_sortKey (l : Launch) (D : va_G) (k : Nat → ClassId) (M : mw) (sz : Nat) (a c9 : Nat) (f : Nat → Int32) (hc9 : c9 < 256) (fa : M a = some (.inl (k 0, 256, .inl f))) : Met l yX0_sortKey wsX0_sortKey ({ frames := 0, cells := 0, slots := 0, locals := 0 }) (va_Pc [.ref a, .int (nI c9)] (mw_U D vwCl (TY k) M sz)) (va_Qi (fun r M1 => M1 = M ∧ r = kx f c9) (mw_B D vwCl M sz) (mw_A M sz)) 0 0 (mw_A M sz) := by
  refine mw_met (cc := cX0_sortKey) (maxL := 2) (ret := (some .int)) (lv := [(0, .ref a), (1, .int (nI c9))]) (by decide) rfl (Nat.le_of_ble_eq_true rfl) rfl ?_
  intro p e s m below meth c ls hE hr hlocks hin hml hsz hP hS hl
  subst hsz
  have hx := hE.1
  have hb := hE.2.1
  have hA : ∀ q, s.heap.size ≤ q → mw_A M s.heap.size q := fun q h => Or.inr h
  refine lv_aload_n hx hb dX0_sortKey_0 rfl (lv_at hl 0 rfl) ?_
  refine lv_iload_n hx hb dX0_sortKey_1 rfl (lv_at hl 1 rfl) ?_
  refine rw_iald hE hP 0 fa rfl (by decide) dX0_sortKey_2 (by omega) ?_
  refine lv_iconst (v := (-1)) hx hb dX0_sortKey_3 (by decide) ?_
  refine lv_icmp_ne (tgt := 14) hx hb dX0_sortKey_4 (by decide) (fun c_4 => ?_) (fun c_4 => ?_)
  · refine lv_aload_n hx hb dX0_sortKey_14 rfl (lv_at hl 0 rfl) ?_
    refine lv_iload_n hx hb dX0_sortKey_15 rfl (lv_at hl 1 rfl) ?_
    refine rw_iald hE hP 0 fa rfl (by decide) dX0_sortKey_16 (by omega) ?_
    exact mw_iret (v := f c9) hE hr hlocks hP hS dX0_sortKey_17 (⟨rfl, by unfold kx; rw [if_neg c_4]⟩)
  · refine lv_ldc (v := nI 65536) hx hb hE.2.2.2.1 (hE.2.2.1 _ mX0_sortKey_k31) dX0_sortKey_7 ?_
    refine lv_iload_n hx hb dX0_sortKey_9 rfl (lv_at hl 1 rfl) ?_
    refine lv_iadd hx hb dX0_sortKey_10 ?_
    refine rw_i (v := nI (65536 + c9)) (nI_add _ _) ?_
    refine lv_goto (tgt := 17) hx hb dX0_sortKey_11 (by decide) ?_
    exact mw_iret (v := nI (65536 + c9)) hE hr hlocks hP hS dX0_sortKey_17 (⟨rfl, by unfold kx; rw [if_pos c_4]⟩)

set_option maxRecDepth 20000 in
theorem mX2_codeOrBlank_f15 : Cond.fieldLink RX2 15 "CodePages$Text" "size" "I" ∈ wsX2_codeOrBlank := by decide +kernel
set_option maxRecDepth 20000 in
theorem mX2_codeOrBlank_f9 : Cond.fieldLink RX2 9 "CodePages$Text" "codes" "[I" ∈ wsX2_codeOrBlank := by decide +kernel
set_option maxRecDepth 20000 in
theorem iX2_codeOrBlank_X2 : ∀ w ∈ u_ws RX2 TX2 2, w ∈ wsX2_codeOrBlank := by decide +kernel
set_option maxHeartbeats 4000000 in
set_option maxRecDepth 100000 in
theorem tX2_codeOrBlank (l : Launch) (D : va_G) (k : Nat → ClassId) (M : mw) (sz : Nat) (a b9 kk sz9 : Nat) (f : Nat → Int32) (hkk : kk < 40) (hs9 : sz9 ≤ 40) (fa : M a = some (.inr (3, [.ref b9, .int (nI sz9)]))) (fb : M b9 = some (.inl (k 0, 40, .inl f))) : Met l yX2_codeOrBlank wsX2_codeOrBlank ({ frames := 0, cells := 0, slots := 0, locals := 0 }) (va_Pc [.ref a, .int (nI kk)] (mw_U D vwCl (TY k) M sz)) (va_Qi (fun r M1 => M1 = M ∧ r = (if kk < sz9 then f kk else nI 32)) (mw_B D vwCl M sz) (mw_A M sz)) 0 0 (mw_A M sz) := by
  refine mw_met (cc := cX2_codeOrBlank) (maxL := 2) (ret := (some .int)) (lv := [(0, .ref a), (1, .int (nI kk))]) (by decide) rfl (Nat.le_of_ble_eq_true rfl) rfl ?_
  intro p e s m below meth c ls hE hr hlocks hin hml hsz hP hS hl
  subst hsz
  have hx := hE.1
  have hb := hE.2.1
  have hA : ∀ q, s.heap.size ≤ q → mw_A M s.heap.size q := fun q h => Or.inr h
  refine lv_iload_n hx hb dX2_codeOrBlank_0 rfl (lv_at hl 1 rfl) ?_
  refine lv_if_lt (tgt := 21) hx hb dX2_codeOrBlank_1 (by decide) (fun c_1 => absurd c_1 (nI_pos (by omega))) (fun c_1 => ?_)
  have k_1 : 0 ≤ kk := nn_nlt (a := kk) (b := 0) c_1 (by omega) (by omega)
  refine lv_iload_n hx hb dX2_codeOrBlank_4 rfl (lv_at hl 1 rfl) ?_
  refine lv_aload_n hx hb dX2_codeOrBlank_5 rfl (lv_at hl 0 rfl) ?_
  refine mw_get (v := .int (nI sz9)) (ci := 3) (T := TX2) (N := 2) (C := RX2) hE iX2_codeOrBlank_X2 hP fa rfl 1 (by decide) (hE.2.2.1 _ mX2_codeOrBlank_f15) rfl rfl dX2_codeOrBlank_6 ?_
  refine lv_icmp_ge (tgt := 21) hx hb dX2_codeOrBlank_9 (by decide) (fun c_9 => ?_) (fun c_9 => ?_)
  · have k_9 : sz9 ≤ kk := nn_le (a := sz9) (b := kk) c_9 (by omega) (by omega)
    refine lv_bipush (v := nI 32) hx hb dX2_codeOrBlank_21 (by decide) ?_
    exact mw_iret (v := nI 32) hE hr hlocks hP hS dX2_codeOrBlank_23 (⟨rfl, by rw [if_neg (by omega)]⟩)
  · have k_9 : kk < sz9 := nn_nle (a := sz9) (b := kk) c_9 (by omega) (by omega)
    refine lv_aload_n hx hb dX2_codeOrBlank_12 rfl (lv_at hl 0 rfl) ?_
    refine mw_get (v := .ref b9) (ci := 3) (T := TX2) (N := 2) (C := RX2) hE iX2_codeOrBlank_X2 hP fa rfl 0 (by decide) (hE.2.2.1 _ mX2_codeOrBlank_f9) rfl rfl dX2_codeOrBlank_13 ?_
    refine lv_iload_n hx hb dX2_codeOrBlank_16 rfl (lv_at hl 1 rfl) ?_
    refine rw_iald hE hP 0 fb rfl (by decide) dX2_codeOrBlank_17 (by omega) ?_
    refine lv_goto (tgt := 23) hx hb dX2_codeOrBlank_18 (by decide) ?_
    exact mw_iret (v := f kk) hE hr hlocks hP hS dX2_codeOrBlank_23 (⟨rfl, by rw [if_pos k_9]⟩)

set_option maxRecDepth 20000 in
theorem mX0_lastCode_f9 : Cond.fieldLink RX0 9 "CodePages$Order" "ranks" "[I" ∈ wsX0_lastCode := by decide +kernel
set_option maxRecDepth 20000 in
theorem iX0_lastCode_X0 : ∀ w ∈ u_ws RX0 TX0 4, w ∈ wsX0_lastCode := by decide +kernel
set_option maxHeartbeats 4000000 in
set_option maxRecDepth 100000 in
theorem tX0_lastCode (l : Launch) (D : va_G) (k : Nat → ClassId) (M : mw) (sz : Nat) (a b4 b5 : Nat) (al nx : Int32) (u3 u4 : Nat → Int32) (fa : M a = some (.inr (1, [.int al, .ref b4, .ref b5, .int nx]))) (fb : M b4 = some (.inl (k 0, 256, .inl u3))) (fc : M b5 = some (.inl (k 1, 256, .inl u4))) : Met l yX0_lastCode wsX0_lastCode ({ frames := 0, cells := 0, slots := 0, locals := 0 }) (va_Pc [.ref a] (mw_U D vwCl (TY k) M sz)) (va_Qi (fun r M1 => M1 = M ∧ r = nI (hgh u3 255)) (mw_B D vwCl M sz) (mw_A M sz)) 0 0 (mw_A M sz) := by
  refine mw_met (cc := cX0_lastCode) (maxL := 3) (ret := (some .int)) (lv := [(0, .ref a)]) (by decide) rfl (Nat.le_of_ble_eq_true rfl) rfl ?_
  intro p e s m below meth c ls hE hr hlocks hin hml hsz hP hS hl
  subst hsz
  have hx := hE.1
  have hb := hE.2.1
  have hA : ∀ q, s.heap.size ≤ q → mw_A M s.heap.size q := fun q h => Or.inr h
  obtain ⟨Q, hQ⟩ : ∃ Q : State → Prop, Q = MQ below (va_Qi (fun r M1 => M1 = M ∧ r = nI (hgh u3 255)) (mw_B D vwCl M s.heap.size) (mw_A M s.heap.size)) ([.ref a] : List Value).toArray s 0 0 (mw_A M s.heap.size) := ⟨_, rfl⟩
  rw [← hQ]
  refine lv_iconst (v := 0) hx hb dX0_lastCode_0 (by decide) ?_
  refine lv_istore_n (lv' := [(1, .int 0), (0, .ref a)]) hx hb dX0_lastCode_1 rfl hl (by decide) rfl (fun ls hl => ?_)
  refine lv_iconst (v := 1) hx hb dX0_lastCode_2 (by decide) ?_
  refine lv_istore_n (lv' := [(2, .int 1), (1, .int 0), (0, .ref a)]) hx hb dX0_lastCode_3 rfl hl (by decide) rfl (fun ls hl => ?_)
  have lp_4 : ∀ (fu : Nat) (cc9 bb : Nat), (cc9 < 256) → (bb ≤ cc9) → (bb = hgh u3 cc9) → 256 - cc9 < fu → ∀ (H : Heap) (locs : List Loc), mw_Q (mw_A M s.heap.size) D vwCl M H → va_S (mw_A M s.heap.size) s.heap H locs → ∀ ls : Array Slot, lv_has ls 3 [(0, .ref a), (1, .int (nI bb)), (2, .int (nI (cc9 + 1)))] → W p l e ({ frames := 0, cells := 0, slots := 0, locals := 0 } : Room) s m ([.ref a] : List Value).toArray below meth c H locs 0 0 Q (F0 m 4 ls []) := by
    intro fu
    induction fu with
    | zero => intro cc9 bb hc9 hb9 hbb hn; exact absurd hn (Nat.not_lt_zero _)
    | succ fu ih_4 =>
      intro cc9 bb hc9 hb9 hbb hn H locs hP hS ls hl
      refine lv_iload_n hx hb dX0_lastCode_4 rfl (lv_at hl 2 rfl) ?_
      refine lv_sipush (v := nI 256) hx hb dX0_lastCode_5 (by decide) ?_
      refine lv_icmp_ge (tgt := 34) hx hb dX0_lastCode_8 (by decide) (fun c_8 => ?_) (fun c_8 => ?_)
      · have k_8 : 256 ≤ (cc9 + 1) := nn_le (a := 256) (b := (cc9 + 1)) c_8 (by omega) (by omega)
        refine lv_iload_n hx hb dX0_lastCode_34 rfl (lv_at hl 1 rfl) ?_
        rw [hQ]
        exact mw_iret (v := nI bb) hE hr hlocks hP hS dX0_lastCode_35 (⟨rfl, by rw [hbb, show cc9 = 255 by omega]⟩)
      · have k_8 : (cc9 + 1) < 256 := nn_nle (a := 256) (b := (cc9 + 1)) c_8 (by omega) (by omega)
        refine lv_aload_n hx hb dX0_lastCode_11 rfl (lv_at hl 0 rfl) ?_
        refine mw_get (v := .ref b4) (ci := 1) (T := TX0) (N := 4) (C := RX0) hE iX0_lastCode_X0 hP fa rfl 1 (by decide) (hE.2.2.1 _ mX0_lastCode_f9) rfl rfl dX0_lastCode_12 ?_
        refine lv_iload_n hx hb dX0_lastCode_15 rfl (lv_at hl 2 rfl) ?_
        refine rw_iald hE hP 0 fb rfl (by decide) dX0_lastCode_16 (by omega) ?_
        refine lv_aload_n hx hb dX0_lastCode_17 rfl (lv_at hl 0 rfl) ?_
        refine mw_get (v := .ref b4) (ci := 1) (T := TX0) (N := 4) (C := RX0) hE iX0_lastCode_X0 hP fa rfl 1 (by decide) (hE.2.2.1 _ mX0_lastCode_f9) rfl rfl dX0_lastCode_18 ?_
        refine lv_iload_n hx hb dX0_lastCode_21 rfl (lv_at hl 1 rfl) ?_
        refine rw_iald hE hP 0 fb rfl (by decide) dX0_lastCode_22 (by omega) ?_
        refine lv_icmp_lt (tgt := 28) hx hb dX0_lastCode_23 (by decide) (fun c_23 => ?_) (fun c_23 => ?_)
        · refine lv_iinc (v := nI ((cc9 + 1) + 1)) (lv' := [(2, .int (nI ((cc9 + 1) + 1))), (0, .ref a), (1, .int (nI bb))]) hx hb dX0_lastCode_28 hl (k := 2) rfl (nI_1 (cc9 + 1)) (by decide) rfl (fun ls hl => ?_)
          refine lv_goto (tgt := 4) hx hb dX0_lastCode_31 (by decide) ?_
          exact ih_4 (cc9 + 1) bb (by omega) (by omega) (by rw [hgh, if_pos (by rw [← hbb]; exact c_23), hbb]) (by omega) H locs hP hS ls (lv_sub hl [1, 2, 0] rfl)
        · refine lv_iload_n hx hb dX0_lastCode_26 rfl (lv_at hl 2 rfl) ?_
          refine lv_istore_n (lv' := [(1, .int (nI (cc9 + 1))), (0, .ref a), (2, .int (nI (cc9 + 1)))]) hx hb dX0_lastCode_27 rfl hl (by decide) rfl (fun ls hl => ?_)
          refine lv_iinc (v := nI ((cc9 + 1) + 1)) (lv' := [(2, .int (nI ((cc9 + 1) + 1))), (1, .int (nI (cc9 + 1))), (0, .ref a)]) hx hb dX0_lastCode_28 hl (k := 2) rfl (nI_1 (cc9 + 1)) (by decide) rfl (fun ls hl => ?_)
          refine lv_goto (tgt := 4) hx hb dX0_lastCode_31 (by decide) ?_
          exact ih_4 (cc9 + 1) (cc9 + 1) (by omega) (by omega) (by rw [hgh, if_neg (by rw [← hbb]; exact c_23)]) (by omega) H locs hP hS ls (lv_sub hl [2, 1, 0] rfl)
  exact lp_4 (257) 0 0 (by omega) (by omega) (rfl) (by omega) _ _ hP hS ls (lv_sub hl [2, 1, 0] rfl)

set_option maxRecDepth 20000 in
theorem mX0_rankThoseOutside_f15 : Cond.fieldLink RX0 15 "CodePages$Order" "inside" "[Z" ∈ wsX0_rankThoseOutside := by decide +kernel
set_option maxRecDepth 20000 in
theorem mX0_rankThoseOutside_f19 : Cond.fieldLink RX0 19 "CodePages$Order" "nextRank" "I" ∈ wsX0_rankThoseOutside := by decide +kernel
set_option maxRecDepth 20000 in
theorem mX0_rankThoseOutside_f9 : Cond.fieldLink RX0 9 "CodePages$Order" "ranks" "[I" ∈ wsX0_rankThoseOutside := by decide +kernel
set_option maxRecDepth 20000 in
theorem iX0_rankThoseOutside_X0 : ∀ w ∈ u_ws RX0 TX0 4, w ∈ wsX0_rankThoseOutside := by decide +kernel
set_option maxHeartbeats 4000000 in
set_option maxRecDepth 100000 in
theorem tX0_rankThoseOutside (l : Launch) (D : va_G) (k : Nat → ClassId) (M : mw) (sz : Nat) (a b4 b5 : Nat) (al nx : Int32) (u3 u4 : Nat → Int32) (fa : M a = some (.inr (1, [.int al, .ref b4, .ref b5, .int nx]))) (fb : M b4 = some (.inl (k 0, 256, .inl u3))) (fc : M b5 = some (.inl (k 1, 256, .inl u4))) (hne : b4 ≠ b5) : Met l yX0_rankThoseOutside wsX0_rankThoseOutside ({ frames := 0, cells := 0, slots := 0, locals := 0 }) (va_Pc [.ref a] (mw_U D vwCl (TY k) M sz)) (va_Qv (fun M1 => M1 b4 = some (.inl (k 0, 256, .inl (rto u3 u4 nx 256))) ∧ ∀ x, x ≠ b4 → M1 x = M x) (mw_B D vwCl M sz) (mw_A M sz)) 0 0 (mw_A M sz) := by
  refine mw_met (cc := cX0_rankThoseOutside) (maxL := 3) (ret := none) (lv := [(0, .ref a)]) (by decide) rfl (Nat.le_of_ble_eq_true rfl) rfl ?_
  intro p e s m below meth c ls hE hr hlocks hin hml hsz hP hS hl
  subst hsz
  have hx := hE.1
  have hb := hE.2.1
  have hA : ∀ q, s.heap.size ≤ q → mw_A M s.heap.size q := fun q h => Or.inr h
  obtain ⟨Q, hQ⟩ : ∃ Q : State → Prop, Q = MQ below (va_Qv (fun M1 => M1 b4 = some (.inl (k 0, 256, .inl (rto u3 u4 nx 256))) ∧ ∀ x, x ≠ b4 → M1 x = M x) (mw_B D vwCl M s.heap.size) (mw_A M s.heap.size)) ([.ref a] : List Value).toArray s 0 0 (mw_A M s.heap.size) := ⟨_, rfl⟩
  rw [← hQ]
  refine lv_aload_n hx hb dX0_rankThoseOutside_0 rfl (lv_at hl 0 rfl) ?_
  refine mw_get (v := .int nx) (ci := 1) (T := TX0) (N := 4) (C := RX0) hE iX0_rankThoseOutside_X0 hP fa rfl 3 (by decide) (hE.2.2.1 _ mX0_rankThoseOutside_f19) rfl rfl dX0_rankThoseOutside_1 ?_
  refine lv_istore_n (lv' := [(1, .int nx), (0, .ref a)]) hx hb dX0_rankThoseOutside_4 rfl hl (by decide) rfl (fun ls hl => ?_)
  refine lv_iconst (v := 0) hx hb dX0_rankThoseOutside_5 (by decide) ?_
  refine lv_istore_n (lv' := [(2, .int 0), (1, .int nx), (0, .ref a)]) hx hb dX0_rankThoseOutside_6 rfl hl (by decide) rfl (fun ls hl => ?_)
  have lp_7 : ∀ (fu : Nat) (i : Nat) (w : Int32) (M1 : mw), (i ≤ 256) → (w = nx + nI (cntb (outb u4) i)) → (M1 a = some (.inr (1, [.int al, .ref b4, .ref b5, .int nx]))) → (M1 b4 = some (.inl (k 0, 256, .inl (rto u3 u4 nx i)))) → (M1 b5 = some (.inl (k 1, 256, .inl u4))) → (∀ x, x ≠ b4 → M1 x = M x) → 256 - i < fu → ∀ (H : Heap) (locs : List Loc), mw_Q (mw_A M s.heap.size) D vwCl M1 H → va_S (mw_A M s.heap.size) s.heap H locs → ∀ ls : Array Slot, lv_has ls 3 [(0, .ref a), (1, .int w), (2, .int (nI i))] → W p l e ({ frames := 0, cells := 0, slots := 0, locals := 0 } : Room) s m ([.ref a] : List Value).toArray below meth c H locs 0 0 Q (F0 m 7 ls []) := by
    intro fu
    induction fu with
    | zero => intro i w M1 hi hw g1 g2 g3 hf hn; exact absurd hn (Nat.not_lt_zero _)
    | succ fu ih_7 =>
      intro i w M1 hi hw g1 g2 g3 hf hn H locs hP hS ls hl
      refine lv_iload_n hx hb dX0_rankThoseOutside_7 rfl (lv_at hl 2 rfl) ?_
      refine lv_sipush (v := nI 256) hx hb dX0_rankThoseOutside_8 (by decide) ?_
      refine lv_icmp_ge (tgt := 39) hx hb dX0_rankThoseOutside_11 (by decide) (fun c_11 => ?_) (fun c_11 => ?_)
      · have k_11 : 256 ≤ i := nn_le (a := 256) (b := i) c_11 (by omega) (by omega)
        rw [hQ]
        exact mw_vret hE hr hlocks hP hS dX0_rankThoseOutside_39 (⟨by rw [g2, show i = 256 by omega], hf⟩)
      · have k_11 : i < 256 := nn_nle (a := 256) (b := i) c_11 (by omega) (by omega)
        refine lv_aload_n hx hb dX0_rankThoseOutside_14 rfl (lv_at hl 0 rfl) ?_
        refine mw_get (v := .ref b5) (ci := 1) (T := TX0) (N := 4) (C := RX0) hE iX0_rankThoseOutside_X0 hP g1 rfl 2 (by decide) (hE.2.2.1 _ mX0_rankThoseOutside_f15) rfl rfl dX0_rankThoseOutside_15 ?_
        refine lv_iload_n hx hb dX0_rankThoseOutside_18 rfl (lv_at hl 2 rfl) ?_
        refine rw_zald hE hP 1 g3 rfl (by decide) dX0_rankThoseOutside_19 (by omega) ?_
        refine lv_if_ne (tgt := 33) hx hb dX0_rankThoseOutside_20 (by decide) (fun c_20 => ?_) (fun c_20 => ?_)
        · refine lv_iinc (v := nI (i + 1)) (lv' := [(2, .int (nI (i + 1))), (0, .ref a), (1, .int w)]) hx hb dX0_rankThoseOutside_33 hl (k := 2) rfl (nI_1 i) (by decide) rfl (fun ls hl => ?_)
          refine lv_goto (tgt := 7) hx hb dX0_rankThoseOutside_36 (by decide) ?_
          exact ih_7 (i + 1) w M1 (by omega) (by rw [cntb_f (show outb u4 i = false from decide_eq_false c_20)]; exact hw) (g1) (by rw [rto_in c_20]; exact g2) (g3) (hf) (by omega) H locs hP hS ls (lv_sub hl [1, 2, 0] rfl)
        · refine lv_aload_n hx hb dX0_rankThoseOutside_23 rfl (lv_at hl 0 rfl) ?_
          refine mw_get (v := .ref b4) (ci := 1) (T := TX0) (N := 4) (C := RX0) hE iX0_rankThoseOutside_X0 hP g1 rfl 1 (by decide) (hE.2.2.1 _ mX0_rankThoseOutside_f9) rfl rfl dX0_rankThoseOutside_24 ?_
          refine lv_iload_n hx hb dX0_rankThoseOutside_27 rfl (lv_at hl 2 rfl) ?_
          refine lv_iload_n hx hb dX0_rankThoseOutside_28 rfl (lv_at hl 1 rfl) ?_
          refine rw_iast hE hP hS 0 g2 rfl (by decide) dX0_rankThoseOutside_29 (by omega) (fun H locs hP hS => ?_)
          obtain ⟨M_3, eM_3⟩ : ∃ Z, Z = mw_up M1 b4 (.inl ((k 0), 256, .inl (upd (rto u3 u4 nx i) i w))) := ⟨_, rfl⟩
          have hP : mw_Q (mw_A M s.heap.size) D vwCl M_3 H := by rw [eM_3]; exact hP
          have f_4 : M_3 a = some (.inr (1, [.int al, .ref b4, .ref b5, .int nx])) := by rw [eM_3, mw_up_n (fun h => by have h1 := g1; rw [h, g2] at h1; cases h1)]; exact g1
          have f_5 : M_3 b4 = some (.inl ((k 0), 256, .inl (upd (rto u3 u4 nx i) i w))) := by rw [eM_3]; exact mw_up_s
          have f_6 : M_3 b5 = some (.inl ((k 1), 256, .inl u4)) := by rw [eM_3, mw_up_n (Ne.symm hne)]; exact g3
          refine lv_iinc (v := w + 1) (lv' := [(1, .int (w + 1)), (0, .ref a), (2, .int (nI i))]) hx hb dX0_rankThoseOutside_30 hl (k := 1) rfl (rfl) (by decide) rfl (fun ls hl => ?_)
          refine lv_iinc (v := nI (i + 1)) (lv' := [(2, .int (nI (i + 1))), (1, .int (w + 1)), (0, .ref a)]) hx hb dX0_rankThoseOutside_33 hl (k := 2) rfl (nI_1 i) (by decide) rfl (fun ls hl => ?_)
          refine lv_goto (tgt := 7) hx hb dX0_rankThoseOutside_36 (by decide) ?_
          have hfr9 : ∀ x, x ≠ b4 → M_3 x = M x := fun x h1 => by rw [eM_3, mw_up_n h1]; exact hf x h1
          exact ih_7 (i + 1) (w + 1) M_3 (by omega) (by rw [hw, cntb_t (show outb u4 i = true from decide_eq_true c_20), Int32.add_assoc, nI_1]) (f_4) (by rw [f_5, rto_out c_20 hw]) (f_6) (hfr9) (by omega) H locs hP hS ls (lv_sub hl [2, 1, 0] rfl)
  exact lp_7 (257) 0 nx M (by omega) ((Int32.add_zero _).symm) (fa) (by rw [rto_0]; exact fb) (fc) (fun _ _ => rfl) (by omega) _ _ hP hS ls (lv_sub hl [2, 1, 0] rfl)
