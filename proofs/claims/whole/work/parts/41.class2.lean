set_option maxRecDepth 20000 in
theorem mX0_init_f15 : Cond.fieldLink RX0 15 "CodePages$Order" "inside" "[Z" ∈ wsX0_init := by decide +kernel
set_option maxRecDepth 20000 in
theorem mX0_init_f19 : Cond.fieldLink RX0 19 "CodePages$Order" "nextRank" "I" ∈ wsX0_init := by decide +kernel
set_option maxRecDepth 20000 in
theorem mX0_init_f23 : Cond.fieldLink RX0 23 "CodePages$Order" "alphabet" "Z" ∈ wsX0_init := by decide +kernel
set_option maxRecDepth 20000 in
theorem mX0_init_f9 : Cond.fieldLink RX0 9 "CodePages$Order" "ranks" "[I" ∈ wsX0_init := by decide +kernel
set_option maxRecDepth 20000 in
theorem iX0_init_X0 : ∀ w ∈ u_ws RX0 TX0 4, w ∈ wsX0_init := by decide +kernel
set_option maxRecDepth 20000 in
theorem mX0_init_arrboolean : Cond.arrayClass .boolean ∈ wsX0_init := by decide +kernel
set_option maxRecDepth 20000 in
theorem mX0_init_arrint : Cond.arrayClass .int ∈ wsX0_init := by decide +kernel
set_option maxRecDepth 20000 in
theorem mX0_init_cobj : Cond.code objectInit ⟨#[0xb1]⟩ 1 none ∈ wsX0_init := by decide +kernel
set_option maxRecDepth 20000 in
theorem mX0_init_imobjectInit : Cond.instanceMethod objectInit ∈ wsX0_init := by decide +kernel
set_option maxRecDepth 20000 in
theorem mX0_init_ml3 : Cond.methodLink RX0 3 objectInit ∈ wsX0_init := by decide +kernel
set_option maxHeartbeats 4000000 in
set_option maxRecDepth 100000 in
theorem tX0_init (l : Launch) (D : va_G) (k : Nat → ClassId) (M : mw) (sz : Nat) (a : Nat) (al : Int32) (hal : al = 0 ∨ al = 1) (fa : M a = some (.inr (1, [.int 0, .null, .null, .int 0]))) : Met l yX0_init wsX0_init ({ frames := 1, cells := 2, slots := 512, locals := 12 }) (va_Pc [.ref a, .int al] (mw_U D vwCl (TY k) M sz)) (va_Qv (fun M1 => ∃ q1 q2, M q1 = none ∧ M q2 = none ∧ q1 ≠ q2 ∧ M1 a = some (.inr (1, [.int al, .ref q1, .ref q2, .int 0])) ∧ M1 q1 = some (.inl (k 0, 256, .inl (blk (fun _ => 0) 0 256 nI))) ∧ M1 q2 = some (.inl (k 1, 256, .inl (fun _ => 0))) ∧ ∀ x, x ≠ a → x ≠ q1 → x ≠ q2 → M1 x = M x) (mw_B D vwCl M sz) (mw_A M sz)) 2 512 (mw_A M sz) := by
  refine mw_met (cc := cX0_init) (maxL := 3) (ret := none) (lv := [(0, .ref a), (1, .int al)]) (by decide) rfl (Nat.le_of_ble_eq_true rfl) rfl ?_
  intro p e s m below meth c ls hE hr hlocks hin hml hsz hP hS hl
  subst hsz
  have hx := hE.1
  have hb := hE.2.1
  have hA : ∀ q, s.heap.size ≤ q → mw_A M s.heap.size q := fun q h => Or.inr h
  obtain ⟨Q, hQ⟩ : ∃ Q : State → Prop, Q = MQ below (va_Qv (fun M1 => ∃ q1 q2, M q1 = none ∧ M q2 = none ∧ q1 ≠ q2 ∧ M1 a = some (.inr (1, [.int al, .ref q1, .ref q2, .int 0])) ∧ M1 q1 = some (.inl (k 0, 256, .inl (blk (fun _ => 0) 0 256 nI))) ∧ M1 q2 = some (.inl (k 1, 256, .inl (fun _ => 0))) ∧ ∀ x, x ≠ a → x ≠ q1 → x ≠ q2 → M1 x = M x) (mw_B D vwCl M s.heap.size) (mw_A M s.heap.size)) ([.ref a, .int al] : List Value).toArray s 2 512 (mw_A M s.heap.size) := ⟨_, rfl⟩
  rw [← hQ]
  refine lv_aload_n hx hb dX0_init_0 rfl (lv_at hl 0 rfl) ?_
  refine W.objInit hx hb hE.2.2.2.1 (hE.2.2.1 _ mX0_init_ml3) (hE.2.2.1 _ mX0_init_imobjectInit) (hE.2.2.1 _ mX0_init_cobj) rfl (by rw [hml]; exact hl.1) rfl dX0_init_1 (Nat.le_of_ble_eq_true rfl) (Nat.le_of_ble_eq_true rfl) ?_
  refine W.eq (g2 := F0 m 4 ls []) rfl ?_
  refine lv_aload_n hx hb dX0_init_4 rfl (lv_at hl 0 rfl) ?_
  refine lv_sipush (v := nI 256) hx hb dX0_init_5 (by decide) ?_
  refine mw_newa (atype := .int) (N' := 256) (a0 := (256, .inl (fun _ => 0))) hE (hE.2.2.1 _ mX0_init_arrint) rfl (fun _ _ h => h) hP hS hA 0 rfl rfl (by decide) (by decide) (by decide) (by decide) (by decide) dX0_init_8 (fun q1 H hMq1 hP hS => ?_)
  refine rw_cs (k := 1) (n := 256) (by decide) (by decide) ?_
  obtain ⟨M_1, eM_1⟩ : ∃ Z, Z = mw_up M q1 (.inl (k 0, 256, .inl (fun _ => 0))) := ⟨_, rfl⟩
  have hP : mw_Q (mw_A M s.heap.size) D vwCl M_1 H := by rw [eM_1]; exact hP
  have nf_2_q1 : a ≠ q1 := mw_ne hMq1 fa
  have f_2 : M_1 a = some (.inr (1, [.int 0, .null, .null, .int 0])) := by rw [eM_1, mw_up_n nf_2_q1]; exact fa
  have f_3 : M_1 q1 = some (.inl (k 0, 256, .inl (fun _ => 0))) := by rw [eM_1]; exact mw_up_s
  refine mw_putF (ty := .array .int) (v := .ref q1) (ci := 1) (T := TX0) (N := 4) (C := RX0) hE iX0_init_X0 tyX0 tyX0_ok nmX0 hP hS f_2 rfl 1 (by decide) (hE.2.2.1 _ mX0_init_f9) rfl rfl hin rfl (by decide +kernel) rfl rfl (Nat.le_of_ble_eq_true rfl) dX0_init_10 (fun H locs hP hS => ?_)
  obtain ⟨M_4, eM_4⟩ : ∃ Z, Z = mw_up M_1 a (.inr (1, [.int 0, .ref q1, .null, .int 0])) := ⟨_, rfl⟩
  have hP : mw_Q (mw_A M s.heap.size) D vwCl M_4 H := by rw [eM_4]; exact hP
  have f_5 : M_4 a = some (.inr (1, [.int 0, .ref q1, .null, .int 0])) := by rw [eM_4]; exact mw_up_s
  have f_6 : M_4 q1 = some (.inl ((k 0), 256, .inl (fun _ => 0))) := by rw [eM_4, mw_up_n (Ne.symm nf_2_q1)]; exact f_3
  refine lv_aload_n hx hb dX0_init_13 rfl (lv_at hl 0 rfl) ?_
  refine lv_sipush (v := nI 256) hx hb dX0_init_14 (by decide) ?_
  refine mw_newa (atype := .boolean) (N' := 256) (a0 := (256, .inl (fun _ => 0))) hE (hE.2.2.1 _ mX0_init_arrboolean) rfl (fun _ _ h => h) hP hS hA 1 rfl rfl (by decide) (by decide) (by decide) (by decide) (by decide) dX0_init_17 (fun q2 H hMq2 hP hS => ?_)
  refine rw_cs (k := 2) (n := 512) (by decide) (by decide) ?_
  obtain ⟨M_7, eM_7⟩ : ∃ Z, Z = mw_up M_4 q2 (.inl (k 1, 256, .inl (fun _ => 0))) := ⟨_, rfl⟩
  have hP : mw_Q (mw_A M s.heap.size) D vwCl M_7 H := by rw [eM_7]; exact hP
  have nf_8_q2 : a ≠ q2 := mw_ne hMq2 f_5
  have f_8 : M_7 a = some (.inr (1, [.int 0, .ref q1, .null, .int 0])) := by rw [eM_7, mw_up_n nf_8_q2]; exact f_5
  have nf_9_q2 : q1 ≠ q2 := mw_ne hMq2 f_6
  have f_9 : M_7 q1 = some (.inl ((k 0), 256, .inl (fun _ => 0))) := by rw [eM_7, mw_up_n nf_9_q2]; exact f_6
  have f_10 : M_7 q2 = some (.inl (k 1, 256, .inl (fun _ => 0))) := by rw [eM_7]; exact mw_up_s
  refine mw_putF (ty := .array .boolean) (v := .ref q2) (ci := 1) (T := TX0) (N := 4) (C := RX0) hE iX0_init_X0 tyX0 tyX0_ok nmX0 hP hS f_8 rfl 2 (by decide) (hE.2.2.1 _ mX0_init_f15) rfl rfl hin rfl (by decide +kernel) rfl rfl (Nat.le_of_ble_eq_true rfl) dX0_init_19 (fun H locs hP hS => ?_)
  obtain ⟨M_11, eM_11⟩ : ∃ Z, Z = mw_up M_7 a (.inr (1, [.int 0, .ref q1, .ref q2, .int 0])) := ⟨_, rfl⟩
  have hP : mw_Q (mw_A M s.heap.size) D vwCl M_11 H := by rw [eM_11]; exact hP
  have f_12 : M_11 a = some (.inr (1, [.int 0, .ref q1, .ref q2, .int 0])) := by rw [eM_11]; exact mw_up_s
  have f_13 : M_11 q1 = some (.inl ((k 0), 256, .inl (fun _ => 0))) := by rw [eM_11, mw_up_n (Ne.symm nf_2_q1)]; exact f_9
  have f_14 : M_11 q2 = some (.inl ((k 1), 256, .inl (fun _ => 0))) := by rw [eM_11, mw_up_n (Ne.symm nf_8_q2)]; exact f_10
  have hq2 : M q2 = none := by have h := hMq2; rw [eM_4, mw_up_n (Ne.symm nf_8_q2), eM_1, mw_up_n (Ne.symm nf_9_q2)] at h; exact h
  have hq12 : q1 ≠ q2 := nf_9_q2
  refine lv_aload_n hx hb dX0_init_22 rfl (lv_at hl 0 rfl) ?_
  refine lv_iconst (v := 0) hx hb dX0_init_23 (by decide) ?_
  refine mw_put (ty := .int) (v := .int 0) (ci := 1) (T := TX0) (N := 4) (C := RX0) hE iX0_init_X0 tyX0 tyX0_ok nmX0 hP hS f_12 rfl 3 (by decide) (hE.2.2.1 _ mX0_init_f19) rfl rfl (by decide +kernel) rfl rfl (Nat.le_of_ble_eq_true rfl) dX0_init_24 (fun H locs hP hS => ?_)
  obtain ⟨M_15, eM_15⟩ : ∃ Z, Z = mw_up M_11 a (.inr (1, [.int 0, .ref q1, .ref q2, .int 0])) := ⟨_, rfl⟩
  have hP : mw_Q (mw_A M s.heap.size) D vwCl M_15 H := by rw [eM_15]; exact hP
  have f_16 : M_15 a = some (.inr (1, [.int 0, .ref q1, .ref q2, .int 0])) := by rw [eM_15]; exact mw_up_s
  have f_17 : M_15 q1 = some (.inl ((k 0), 256, .inl (fun _ => 0))) := by rw [eM_15, mw_up_n (Ne.symm nf_2_q1)]; exact f_13
  have f_18 : M_15 q2 = some (.inl ((k 1), 256, .inl (fun _ => 0))) := by rw [eM_15, mw_up_n (Ne.symm nf_8_q2)]; exact f_14
  refine lv_aload_n hx hb dX0_init_27 rfl (lv_at hl 0 rfl) ?_
  refine lv_iload_n hx hb dX0_init_28 rfl (lv_at hl 1 rfl) ?_
  refine mw_putF (ty := .boolean) (v := .int al) (ci := 1) (T := TX0) (N := 4) (C := RX0) hE iX0_init_X0 tyX0 tyX0_ok nmX0 hP hS f_16 rfl 0 (by decide) (hE.2.2.1 _ mX0_init_f23) rfl rfl hin rfl (by decide +kernel) (by rcases hal with rfl | rfl <;> rfl) (by rcases hal with rfl | rfl <;> rfl) (Nat.le_of_ble_eq_true rfl) dX0_init_29 (fun H locs hP hS => ?_)
  obtain ⟨M_19, eM_19⟩ : ∃ Z, Z = mw_up M_15 a (.inr (1, [.int al, .ref q1, .ref q2, .int 0])) := ⟨_, rfl⟩
  have hP : mw_Q (mw_A M s.heap.size) D vwCl M_19 H := by rw [eM_19]; exact hP
  have f_20 : M_19 a = some (.inr (1, [.int al, .ref q1, .ref q2, .int 0])) := by rw [eM_19]; exact mw_up_s
  have f_21 : M_19 q1 = some (.inl ((k 0), 256, .inl (fun _ => 0))) := by rw [eM_19, mw_up_n (Ne.symm nf_2_q1)]; exact f_17
  have f_22 : M_19 q2 = some (.inl ((k 1), 256, .inl (fun _ => 0))) := by rw [eM_19, mw_up_n (Ne.symm nf_8_q2)]; exact f_18
  refine lv_iconst (v := 0) hx hb dX0_init_32 (by decide) ?_
  refine lv_istore_n (lv' := [(2, .int 0), (0, .ref a), (1, .int al)]) hx hb dX0_init_33 rfl hl (by decide) rfl (fun ls hl => ?_)
  have hfr0 : ∀ x, x ≠ a → x ≠ q1 → x ≠ q2 → M_19 x = M x := fun x h1 h2 h3 => by rw [eM_19, mw_up_n h1, eM_15, mw_up_n h1, eM_11, mw_up_n h1, eM_7, mw_up_n h3, eM_4, mw_up_n h1, eM_1, mw_up_n h2]
  have lp_34 : ∀ (fu : Nat) (i : Nat) (M1 : mw), (i ≤ 256) → (M1 a = some (.inr (1, [.int al, .ref q1, .ref q2, .int 0]))) → (M1 q1 = some (.inl (k 0, 256, .inl (blk (fun _ => 0) 0 i nI)))) → (M1 q2 = some (.inl (k 1, 256, .inl (fun _ => 0)))) → (∀ x, x ≠ a → x ≠ q1 → x ≠ q2 → M1 x = M x) → 256 - i < fu → ∀ (H : Heap) (locs : List Loc), mw_Q (mw_A M s.heap.size) D vwCl M1 H → va_S (mw_A M s.heap.size) s.heap H locs → ∀ ls : Array Slot, lv_has ls 3 [(0, .ref a), (2, .int (nI i))] → W p l e ({ frames := 1, cells := 2, slots := 512, locals := 12 } : Room) s m ([.ref a, .int al] : List Value).toArray below meth c H locs 2 512 Q (F0 m 34 ls []) := by
    intro fu
    induction fu with
    | zero => intro i M1 hi g1 g2 g3 hf hn; exact absurd hn (Nat.not_lt_zero _)
    | succ fu ih_34 =>
      intro i M1 hi g1 g2 g3 hf hn H locs hP hS ls hl
      refine lv_iload_n hx hb dX0_init_34 rfl (lv_at hl 1 rfl) ?_
      refine lv_sipush (v := nI 256) hx hb dX0_init_35 (by decide) ?_
      refine lv_icmp_ge (tgt := 54) hx hb dX0_init_38 (by decide) (fun c_38 => ?_) (fun c_38 => ?_)
      · have k_38 : 256 ≤ i := nn_le (a := 256) (b := i) c_38 (by omega) (by omega)
        rw [hQ]
        exact mw_vret hE hr hlocks hP hS dX0_init_54 (⟨q1, q2, hMq1, hq2, hq12, g1, by rw [g2, show i = 256 by omega], g3, hf⟩)
      · have k_38 : i < 256 := nn_nle (a := 256) (b := i) c_38 (by omega) (by omega)
        refine lv_aload_n hx hb dX0_init_41 rfl (lv_at hl 0 rfl) ?_
        refine mw_get (v := .ref q1) (ci := 1) (T := TX0) (N := 4) (C := RX0) hE iX0_init_X0 hP g1 rfl 1 (by decide) (hE.2.2.1 _ mX0_init_f9) rfl rfl dX0_init_42 ?_
        refine lv_iload_n hx hb dX0_init_45 rfl (lv_at hl 1 rfl) ?_
        refine lv_iload_n hx hb dX0_init_46 rfl (lv_at hl 1 rfl) ?_
        refine rw_iast hE hP hS 0 g2 rfl (by decide) dX0_init_47 (by omega) (fun H locs hP hS => ?_)
        obtain ⟨M_24, eM_24⟩ : ∃ Z, Z = mw_up M1 q1 (.inl ((k 0), 256, .inl (upd (blk (fun _ => 0) 0 i nI) i (nI i)))) := ⟨_, rfl⟩
        have hP : mw_Q (mw_A M s.heap.size) D vwCl M_24 H := by rw [eM_24]; exact hP
        have f_25 : M_24 a = some (.inr (1, [.int al, .ref q1, .ref q2, .int 0])) := by rw [eM_24, mw_up_n nf_2_q1]; exact g1
        have f_26 : M_24 q1 = some (.inl ((k 0), 256, .inl (upd (blk (fun _ => 0) 0 i nI) i (nI i)))) := by rw [eM_24]; exact mw_up_s
        have f_27 : M_24 q2 = some (.inl ((k 1), 256, .inl (fun _ => 0))) := by rw [eM_24, mw_up_n (Ne.symm nf_9_q2)]; exact g3
        refine lv_iinc (v := nI (i + 1)) (lv' := [(2, .int (nI (i + 1))), (0, .ref a)]) hx hb dX0_init_48 hl (k := 1) rfl (nI_1 i) (by decide) rfl (fun ls hl => ?_)
        refine lv_goto (tgt := 34) hx hb dX0_init_51 (by decide) ?_
        have hfr9 : ∀ x, x ≠ a → x ≠ q1 → x ≠ q2 → M_24 x = M x := fun x h1 h2 h3 => by rw [eM_24, mw_up_n h2]; exact hf x h1 h2 h3
        exact ih_34 (i + 1) M_24 (by omega) (f_25) (by rw [f_26, wh_nxt (n := i) rfl (by omega)]) (f_27) (hfr9) (by omega) H locs hP hS ls (lv_sub hl [1, 0] rfl)
  exact lp_34 (257) 0 M_19 (by omega) (f_20) (by rw [f_21, blk_0]) (f_22) (hfr0) (by omega) _ _ hP hS ls (lv_sub hl [1, 0] rfl)

set_option maxRecDepth 20000 in
theorem mX2_init_f15 : Cond.fieldLink RX2 15 "CodePages$Text" "size" "I" ∈ wsX2_init := by decide +kernel
set_option maxRecDepth 20000 in
theorem mX2_init_f9 : Cond.fieldLink RX2 9 "CodePages$Text" "codes" "[I" ∈ wsX2_init := by decide +kernel
set_option maxRecDepth 20000 in
theorem iX2_init_X2 : ∀ w ∈ u_ws RX2 TX2 2, w ∈ wsX2_init := by decide +kernel
set_option maxRecDepth 20000 in
theorem mX2_init_arrint : Cond.arrayClass .int ∈ wsX2_init := by decide +kernel
set_option maxRecDepth 20000 in
theorem mX2_init_cobj : Cond.code objectInit ⟨#[0xb1]⟩ 1 none ∈ wsX2_init := by decide +kernel
set_option maxRecDepth 20000 in
theorem mX2_init_imobjectInit : Cond.instanceMethod objectInit ∈ wsX2_init := by decide +kernel
set_option maxRecDepth 20000 in
theorem mX2_init_ml3 : Cond.methodLink RX2 3 objectInit ∈ wsX2_init := by decide +kernel
set_option maxHeartbeats 4000000 in
set_option maxRecDepth 100000 in
theorem tX2_init (l : Launch) (D : va_G) (k : Nat → ClassId) (M : mw) (sz : Nat) (a : Nat) (fa : M a = some (.inr (3, [.null, .int 0]))) : Met l yX2_init wsX2_init ({ frames := 1, cells := 1, slots := 40, locals := 12 }) (va_Pc [.ref a] (mw_U D vwCl (TY k) M sz)) (va_Qv (fun M1 => ∃ q1, M q1 = none ∧ M1 a = some (.inr (3, [.ref q1, .int 0])) ∧ M1 q1 = some (.inl (k 0, 40, .inl (fun _ => 0))) ∧ ∀ x, x ≠ a → x ≠ q1 → M1 x = M x) (mw_B D vwCl M sz) (mw_A M sz)) 1 40 (mw_A M sz) := by
  refine mw_met (cc := cX2_init) (maxL := 1) (ret := none) (lv := [(0, .ref a)]) (by decide) rfl (Nat.le_of_ble_eq_true rfl) rfl ?_
  intro p e s m below meth c ls hE hr hlocks hin hml hsz hP hS hl
  subst hsz
  have hx := hE.1
  have hb := hE.2.1
  have hA : ∀ q, s.heap.size ≤ q → mw_A M s.heap.size q := fun q h => Or.inr h
  refine lv_aload_n hx hb dX2_init_0 rfl (lv_at hl 0 rfl) ?_
  refine W.objInit hx hb hE.2.2.2.1 (hE.2.2.1 _ mX2_init_ml3) (hE.2.2.1 _ mX2_init_imobjectInit) (hE.2.2.1 _ mX2_init_cobj) rfl (by rw [hml]; exact hl.1) rfl dX2_init_1 (Nat.le_of_ble_eq_true rfl) (Nat.le_of_ble_eq_true rfl) ?_
  refine W.eq (g2 := F0 m 4 ls []) rfl ?_
  refine lv_aload_n hx hb dX2_init_4 rfl (lv_at hl 0 rfl) ?_
  refine lv_bipush (v := nI 40) hx hb dX2_init_5 (by decide) ?_
  refine mw_newa (atype := .int) (N' := 40) (a0 := (40, .inl (fun _ => 0))) hE (hE.2.2.1 _ mX2_init_arrint) rfl (fun _ _ h => h) hP hS hA 0 rfl rfl (by decide) (by decide) (by decide) (by decide) (by decide) dX2_init_7 (fun q1 H hMq1 hP hS => ?_)
  refine rw_cs (k := 1) (n := 40) (by decide) (by decide) ?_
  obtain ⟨M_1, eM_1⟩ : ∃ Z, Z = mw_up M q1 (.inl (k 0, 40, .inl (fun _ => 0))) := ⟨_, rfl⟩
  have hP : mw_Q (mw_A M s.heap.size) D vwCl M_1 H := by rw [eM_1]; exact hP
  have nf_2_q1 : a ≠ q1 := mw_ne hMq1 fa
  have f_2 : M_1 a = some (.inr (3, [.null, .int 0])) := by rw [eM_1, mw_up_n nf_2_q1]; exact fa
  have f_3 : M_1 q1 = some (.inl (k 0, 40, .inl (fun _ => 0))) := by rw [eM_1]; exact mw_up_s
  refine mw_putF (ty := .array .int) (v := .ref q1) (ci := 3) (T := TX2) (N := 2) (C := RX2) hE iX2_init_X2 tyX2 tyX2_ok nmX2 hP hS f_2 rfl 0 (by decide) (hE.2.2.1 _ mX2_init_f9) rfl rfl hin rfl (by decide +kernel) rfl rfl (Nat.le_of_ble_eq_true rfl) dX2_init_9 (fun H locs hP hS => ?_)
  obtain ⟨M_4, eM_4⟩ : ∃ Z, Z = mw_up M_1 a (.inr (3, [.ref q1, .int 0])) := ⟨_, rfl⟩
  have hP : mw_Q (mw_A M s.heap.size) D vwCl M_4 H := by rw [eM_4]; exact hP
  have f_5 : M_4 a = some (.inr (3, [.ref q1, .int 0])) := by rw [eM_4]; exact mw_up_s
  have f_6 : M_4 q1 = some (.inl ((k 0), 40, .inl (fun _ => 0))) := by rw [eM_4, mw_up_n (Ne.symm nf_2_q1)]; exact f_3
  refine lv_aload_n hx hb dX2_init_12 rfl (lv_at hl 0 rfl) ?_
  refine lv_iconst (v := 0) hx hb dX2_init_13 (by decide) ?_
  refine mw_put (ty := .int) (v := .int 0) (ci := 3) (T := TX2) (N := 2) (C := RX2) hE iX2_init_X2 tyX2 tyX2_ok nmX2 hP hS f_5 rfl 1 (by decide) (hE.2.2.1 _ mX2_init_f15) rfl rfl (by decide +kernel) rfl rfl (Nat.le_of_ble_eq_true rfl) dX2_init_14 (fun H locs hP hS => ?_)
  obtain ⟨M_7, eM_7⟩ : ∃ Z, Z = mw_up M_4 a (.inr (3, [.ref q1, .int 0])) := ⟨_, rfl⟩
  have hP : mw_Q (mw_A M s.heap.size) D vwCl M_7 H := by rw [eM_7]; exact hP
  have f_8 : M_7 a = some (.inr (3, [.ref q1, .int 0])) := by rw [eM_7]; exact mw_up_s
  have f_9 : M_7 q1 = some (.inl ((k 0), 40, .inl (fun _ => 0))) := by rw [eM_7, mw_up_n (Ne.symm nf_2_q1)]; exact f_6
  have hfr0 : ∀ x, x ≠ a → x ≠ q1 → M_7 x = M x := fun x h1 h2 => by rw [eM_7, mw_up_n h1, eM_4, mw_up_n h1, eM_1, mw_up_n h2]
  exact mw_vret hE hr hlocks hP hS dX2_init_17 (⟨q1, hMq1, f_8, f_9, hfr0⟩)

set_option maxRecDepth 20000 in
theorem mX0_addEqual_f15 : Cond.fieldLink RX0 15 "CodePages$Order" "inside" "[Z" ∈ wsX0_addEqual := by decide +kernel
set_option maxRecDepth 20000 in
theorem mX0_addEqual_f9 : Cond.fieldLink RX0 9 "CodePages$Order" "ranks" "[I" ∈ wsX0_addEqual := by decide +kernel
set_option maxRecDepth 20000 in
theorem iX0_addEqual_X0 : ∀ w ∈ u_ws RX0 TX0 4, w ∈ wsX0_addEqual := by decide +kernel
set_option maxHeartbeats 4000000 in
set_option maxRecDepth 100000 in
theorem tX0_addEqual (l : Launch) (D : va_G) (k : Nat → ClassId) (M : mw) (sz : Nat) (a b4 b5 : Nat) (al nx : Int32) (u3 u4 : Nat → Int32) (fa : M a = some (.inr (1, [.int al, .ref b4, .ref b5, .int nx]))) (fb : M b4 = some (.inl (k 0, 256, .inl u3))) (fc : M b5 = some (.inl (k 1, 256, .inl u4))) (hne : b4 ≠ b5) (i j : Nat) (hi : i < 256) (hj : j < 256) : Met l yX0_addEqual wsX0_addEqual ({ frames := 1, cells := 0, slots := 0, locals := 22 }) (va_Pc [.ref a, .int (nI i), .int (nI j)] (mw_U D vwCl (TY k) M sz)) (va_Qi (fun r M1 => ((u4 i = 0 ∨ ¬ u4 j = 0) ∧ r = 0 ∧ M1 = M) ∨ (¬ u4 i = 0 ∧ u4 j = 0 ∧ r = 1 ∧ M1 b5 = some (.inl (k 1, 256, .inl (upd u4 j 1))) ∧ M1 b4 = some (.inl (k 0, 256, .inl (rto (upd u3 j (u3 i)) (upd u4 j 1) nx 256))) ∧ ∀ x, x ≠ b4 → x ≠ b5 → M1 x = M x)) (mw_B D vwCl M sz) (mw_A M sz)) 0 0 (mw_A M sz) := by
  refine mw_met (cc := cX0_addEqual) (maxL := 3) (ret := (some .boolean)) (lv := [(0, .ref a), (1, .int (nI i)), (2, .int (nI j))]) (by decide) rfl (Nat.le_of_ble_eq_true rfl) rfl ?_
  intro p e s m below meth c ls hE hr hlocks hin hml hsz hP hS hl
  subst hsz
  have hx := hE.1
  have hb := hE.2.1
  have hA : ∀ q, s.heap.size ≤ q → mw_A M s.heap.size q := fun q h => Or.inr h
  refine lv_aload_n hx hb dX0_addEqual_0 rfl (lv_at hl 0 rfl) ?_
  refine mw_get (v := .ref b5) (ci := 1) (T := TX0) (N := 4) (C := RX0) hE iX0_addEqual_X0 hP fa rfl 2 (by decide) (hE.2.2.1 _ mX0_addEqual_f15) rfl rfl dX0_addEqual_1 ?_
  refine lv_iload_n hx hb dX0_addEqual_4 rfl (lv_at hl 1 rfl) ?_
  refine rw_zald hE hP 1 fc rfl (by decide) dX0_addEqual_5 (by omega) ?_
  refine lv_if_eq (tgt := 18) hx hb dX0_addEqual_6 (by decide) (fun c_6 => ?_) (fun c_6 => ?_)
  · refine lv_iconst (v := 0) hx hb dX0_addEqual_18 (by decide) ?_
    exact mw_zret (v := 0) (ty := .boolean) hE hr hlocks hP hS dX0_addEqual_19 (rfl) (Or.inl ⟨Or.inl c_6, rfl, rfl⟩)
  · refine lv_aload_n hx hb dX0_addEqual_9 rfl (lv_at hl 0 rfl) ?_
    refine mw_get (v := .ref b5) (ci := 1) (T := TX0) (N := 4) (C := RX0) hE iX0_addEqual_X0 hP fa rfl 2 (by decide) (hE.2.2.1 _ mX0_addEqual_f15) rfl rfl dX0_addEqual_10 ?_
    refine lv_iload_n hx hb dX0_addEqual_13 rfl (lv_at hl 2 rfl) ?_
    refine rw_zald hE hP 1 fc rfl (by decide) dX0_addEqual_14 (by omega) ?_
    refine lv_if_eq (tgt := 20) hx hb dX0_addEqual_15 (by decide) (fun c_15 => ?_) (fun c_15 => ?_)
    · refine lv_aload_n hx hb dX0_addEqual_20 rfl (lv_at hl 0 rfl) ?_
      refine mw_get (v := .ref b5) (ci := 1) (T := TX0) (N := 4) (C := RX0) hE iX0_addEqual_X0 hP fa rfl 2 (by decide) (hE.2.2.1 _ mX0_addEqual_f15) rfl rfl dX0_addEqual_21 ?_
      refine lv_iload_n hx hb dX0_addEqual_24 rfl (lv_at hl 2 rfl) ?_
      refine lv_iconst (v := 1) hx hb dX0_addEqual_25 (by decide) ?_
      refine rw_zast hE hP hS 1 fc rfl (by decide) (by decide) dX0_addEqual_26 (by omega) (fun H locs hP hS => ?_)
      obtain ⟨M_3, eM_3⟩ : ∃ Z, Z = mw_up M b5 (.inl ((k 1), 256, .inl (upd u4 j 1))) := ⟨_, rfl⟩
      have hP : mw_Q (mw_A M s.heap.size) D vwCl M_3 H := by rw [eM_3]; exact hP
      have f_4 : M_3 a = some (.inr (1, [.int al, .ref b4, .ref b5, .int nx])) := by rw [eM_3, mw_up_n (fun h => by have h1 := fa; rw [h, fc] at h1; cases h1)]; exact fa
      have f_5 : M_3 b4 = some (.inl ((k 0), 256, .inl u3)) := by rw [eM_3, mw_up_n hne]; exact fb
      have f_6 : M_3 b5 = some (.inl ((k 1), 256, .inl (upd u4 j 1))) := by rw [eM_3]; exact mw_up_s
      refine lv_aload_n hx hb dX0_addEqual_27 rfl (lv_at hl 0 rfl) ?_
      refine mw_get (v := .ref b4) (ci := 1) (T := TX0) (N := 4) (C := RX0) hE iX0_addEqual_X0 hP f_4 rfl 1 (by decide) (hE.2.2.1 _ mX0_addEqual_f9) rfl rfl dX0_addEqual_28 ?_
      refine lv_iload_n hx hb dX0_addEqual_31 rfl (lv_at hl 2 rfl) ?_
      refine lv_aload_n hx hb dX0_addEqual_32 rfl (lv_at hl 0 rfl) ?_
      refine mw_get (v := .ref b4) (ci := 1) (T := TX0) (N := 4) (C := RX0) hE iX0_addEqual_X0 hP f_4 rfl 1 (by decide) (hE.2.2.1 _ mX0_addEqual_f9) rfl rfl dX0_addEqual_33 ?_
      refine lv_iload_n hx hb dX0_addEqual_36 rfl (lv_at hl 1 rfl) ?_
      refine rw_iald hE hP 0 f_5 rfl (by decide) dX0_addEqual_37 (by omega) ?_
      refine rw_iast hE hP hS 0 f_5 rfl (by decide) dX0_addEqual_38 (by omega) (fun H locs hP hS => ?_)
      obtain ⟨M_7, eM_7⟩ : ∃ Z, Z = mw_up M_3 b4 (.inl ((k 0), 256, .inl (upd u3 j (u3 i)))) := ⟨_, rfl⟩
      have hP : mw_Q (mw_A M s.heap.size) D vwCl M_7 H := by rw [eM_7]; exact hP
      have f_8 : M_7 a = some (.inr (1, [.int al, .ref b4, .ref b5, .int nx])) := by rw [eM_7, mw_up_n (fun h => by have h1 := f_4; rw [h, f_5] at h1; cases h1)]; exact f_4
      have f_9 : M_7 b4 = some (.inl ((k 0), 256, .inl (upd u3 j (u3 i)))) := by rw [eM_7]; exact mw_up_s
      have f_10 : M_7 b5 = some (.inl ((k 1), 256, .inl (upd u4 j 1))) := by rw [eM_7, mw_up_n (Ne.symm hne)]; exact f_6
      refine lv_aload_n hx hb dX0_addEqual_39 rfl (lv_at hl 0 rfl) ?_
      refine mw_callv hP hS hA (va_runV (As := []) (rest := []) ⟨hx, hb, hml, hE.2.2.2.1, hE.2.2.1⟩ (tX0_rankThoseOutside l D k _ _ a b4 b5 al nx (upd u3 j (u3 i)) (upd u4 j 1) f_8 f_9 f_10 hne) (cwV 0 hE.2.2.1 gX0_addEqual_X0_rankThoseOutside rfl rfl rfl (by decide +kernel) ⟨(Nat.le_of_ble_eq_true rfl), (Nat.le_of_ble_eq_true rfl)⟩) (mw_preV hE hP (ci := 1) rfl rfl f_8 []) rfl rfl hl.1 rfl (lv_room (Nat.le_of_ble_eq_true rfl)) dX0_addEqual_40 ⟨(Nat.le_of_ble_eq_true rfl), (Nat.le_of_ble_eq_true rfl)⟩) (fun M9 H locs hw hP hS => ?_)
      obtain ⟨h91, h92⟩ := hw
      refine lv_iconst (v := 1) hx hb dX0_addEqual_43 (by decide) ?_
      exact mw_zret (v := 1) (ty := .boolean) hE hr hlocks hP hS dX0_addEqual_44 (rfl) (Or.inr ⟨c_6, c_15, rfl, (h92 b5 (Ne.symm hne)).trans f_10, h91, fun x h1 h2 => by rw [h92 x h1, eM_7, mw_up_n h1, eM_3, mw_up_n h2]⟩)
    · refine lv_iconst (v := 0) hx hb dX0_addEqual_18 (by decide) ?_
      exact mw_zret (v := 0) (ty := .boolean) hE hr hlocks hP hS dX0_addEqual_19 (rfl) (Or.inl ⟨Or.inr c_15, rfl, rfl⟩)

set_option maxRecDepth 20000 in
theorem mX0_addRange_f15 : Cond.fieldLink RX0 15 "CodePages$Order" "inside" "[Z" ∈ wsX0_addRange := by decide +kernel
set_option maxRecDepth 20000 in
theorem mX0_addRange_f19 : Cond.fieldLink RX0 19 "CodePages$Order" "nextRank" "I" ∈ wsX0_addRange := by decide +kernel
set_option maxRecDepth 20000 in
theorem mX0_addRange_f9 : Cond.fieldLink RX0 9 "CodePages$Order" "ranks" "[I" ∈ wsX0_addRange := by decide +kernel
set_option maxRecDepth 20000 in
theorem iX0_addRange_X0 : ∀ w ∈ u_ws RX0 TX0 4, w ∈ wsX0_addRange := by decide +kernel
set_option maxRecDepth 20000 in
theorem mX0_addRange_inijavalangMath : Cond.initialized "java/lang/Math" ∈ wsX0_addRange := by decide +kernel
set_option maxRecDepth 20000 in
theorem mX0_addRange_mathabs : Cond.code Lib.Math.abs.name Lib.Math.abs.code 1 (some .int) ∈ wsX0_addRange := by decide +kernel
set_option maxRecDepth 20000 in
theorem mX0_addRange_mathmax : Cond.code Lib.Math.max.name Lib.Math.max.code 2 (some .int) ∈ wsX0_addRange := by decide +kernel
set_option maxRecDepth 20000 in
theorem mX0_addRange_mathmin : Cond.code Lib.Math.min.name Lib.Math.min.code 2 (some .int) ∈ wsX0_addRange := by decide +kernel
set_option maxRecDepth 20000 in
theorem mX0_addRange_ml35 : Cond.methodLink RX0 35 Lib.Math.min.name ∈ wsX0_addRange := by decide +kernel
set_option maxRecDepth 20000 in
theorem mX0_addRange_ml41 : Cond.methodLink RX0 41 Lib.Math.max.name ∈ wsX0_addRange := by decide +kernel
set_option maxRecDepth 20000 in
theorem mX0_addRange_ml44 : Cond.methodLink RX0 44 Lib.Math.abs.name ∈ wsX0_addRange := by decide +kernel
set_option maxRecDepth 20000 in
theorem mX0_addRange_stLibMathabsname : Cond.static Lib.Math.abs.name ∈ wsX0_addRange := by decide +kernel
set_option maxRecDepth 20000 in
theorem mX0_addRange_stLibMathmaxname : Cond.static Lib.Math.max.name ∈ wsX0_addRange := by decide +kernel
set_option maxRecDepth 20000 in
theorem mX0_addRange_stLibMathminname : Cond.static Lib.Math.min.name ∈ wsX0_addRange := by decide +kernel
set_option maxHeartbeats 4000000 in
set_option maxRecDepth 100000 in
theorem tX0_addRange (l : Launch) (D : va_G) (k : Nat → ClassId) (M : mw) (sz : Nat) (a b4 b5 : Nat) (al nx : Int32) (u3 u4 : Nat → Int32) (fa : M a = some (.inr (1, [.int al, .ref b4, .ref b5, .int nx]))) (fb : M b4 = some (.inl (k 0, 256, .inl u3))) (fc : M b5 = some (.inl (k 1, 256, .inl u4))) (hne : b4 ≠ b5) (ff tt : Nat) (hff : ff < 256) (htt : tt < 256) : Met l yX0_addRange wsX0_addRange ({ frames := 1, cells := 0, slots := 0, locals := 22 }) (va_Pc [.ref a, .int (nI ff), .int (nI tt)] (mw_U D vwCl (TY k) M sz)) (va_Qi (fun r M1 => ∃ up : Bool, (up = true ↔ ff ≤ tt) ∧ (((∃ q, q < tcn up ff tt ∧ ¬ u4 (tlo up ff tt + q) = 0) ∧ r = 0 ∧ M1 = M) ∨ ((∀ q, q < tcn up ff tt → u4 (tlo up ff tt + q) = 0) ∧ r = 1 ∧ M1 b5 = some (.inl (k 1, 256, .inl (blk u4 (tlo up ff tt) (tcn up ff tt) (fun _ => 1)))) ∧ M1 b4 = some (.inl (k 0, 256, .inl (rto (blk u3 (tlo up ff tt) (tcn up ff tt) (fun q => nx + nI (dst up ff tt q))) (blk u4 (tlo up ff tt) (tcn up ff tt) (fun _ => 1)) (nx + nI (tcn up ff tt)) 256))) ∧ M1 a = some (.inr (1, [.int al, .ref b4, .ref b5, .int (nx + nI (tcn up ff tt))])) ∧ ∀ x, x ≠ a → x ≠ b4 → x ≠ b5 → M1 x = M x))) (mw_B D vwCl M sz) (mw_A M sz)) 0 0 (mw_A M sz) := by
  refine mw_met (cc := cX0_addRange) (maxL := 6) (ret := (some .boolean)) (lv := [(0, .ref a), (1, .int (nI ff)), (2, .int (nI tt))]) (by decide) rfl (Nat.le_of_ble_eq_true rfl) rfl ?_
  intro p e s m below meth c ls hE hr hlocks hin hml hsz hP hS hl
  subst hsz
  have hx := hE.1
  have hb := hE.2.1
  have hA : ∀ q, s.heap.size ≤ q → mw_A M s.heap.size q := fun q h => Or.inr h
  obtain ⟨Q, hQ⟩ : ∃ Q : State → Prop, Q = MQ below (va_Qi (fun r M1 => ∃ up : Bool, (up = true ↔ ff ≤ tt) ∧ (((∃ q, q < tcn up ff tt ∧ ¬ u4 (tlo up ff tt + q) = 0) ∧ r = 0 ∧ M1 = M) ∨ ((∀ q, q < tcn up ff tt → u4 (tlo up ff tt + q) = 0) ∧ r = 1 ∧ M1 b5 = some (.inl (k 1, 256, .inl (blk u4 (tlo up ff tt) (tcn up ff tt) (fun _ => 1)))) ∧ M1 b4 = some (.inl (k 0, 256, .inl (rto (blk u3 (tlo up ff tt) (tcn up ff tt) (fun q => nx + nI (dst up ff tt q))) (blk u4 (tlo up ff tt) (tcn up ff tt) (fun _ => 1)) (nx + nI (tcn up ff tt)) 256))) ∧ M1 a = some (.inr (1, [.int al, .ref b4, .ref b5, .int (nx + nI (tcn up ff tt))])) ∧ ∀ x, x ≠ a → x ≠ b4 → x ≠ b5 → M1 x = M x))) (mw_B D vwCl M s.heap.size) (mw_A M s.heap.size)) ([.ref a, .int (nI ff), .int (nI tt)] : List Value).toArray s 0 0 (mw_A M s.heap.size) := ⟨_, rfl⟩
  rw [← hQ]
  have nab4 : a ≠ b4 := fun h => by have h1 := fa; rw [h, fb] at h1; cases h1
  rcases Nat.lt_or_ge tt ff with hud | hud
  · skip
    refine lv_iload_n hx hb dX0_addRange_0 rfl (lv_at hl 1 rfl) ?_
    refine lv_iload_n hx hb dX0_addRange_1 rfl (lv_at hl 2 rfl) ?_
    refine va_mmin hx hb (by rw [hml]; exact hl.1.symm) hE.2.2.2.1 (hE.2.2.1 _ mX0_addRange_ml35) (hE.2.2.1 _ mX0_addRange_stLibMathminname) (hE.2.2.1 _ mX0_addRange_inijavalangMath) (hE.2.2.1 _ mX0_addRange_mathmin) (by decide) (Nat.le_of_ble_eq_true rfl) (by decide) (by decide) dX0_addRange_2 ?_
    refine rw_i (v := nI tt) (if_pos (nI_lt hud (by omega))) ?_
    refine lv_istore_n (lv' := [(3, .int (nI tt)), (0, .ref a), (1, .int (nI ff)), (2, .int (nI tt))]) hx hb dX0_addRange_5 rfl hl (by decide) rfl (fun ls hl => ?_)
    refine lv_iload_n hx hb dX0_addRange_6 rfl (lv_at hl 2 rfl) ?_
    refine lv_iload_n hx hb dX0_addRange_7 rfl (lv_at hl 3 rfl) ?_
    refine va_mmax hx hb (by rw [hml]; exact hl.1.symm) hE.2.2.2.1 (hE.2.2.1 _ mX0_addRange_ml41) (hE.2.2.1 _ mX0_addRange_stLibMathmaxname) (hE.2.2.1 _ mX0_addRange_inijavalangMath) (hE.2.2.1 _ mX0_addRange_mathmax) (by decide) (Nat.le_of_ble_eq_true rfl) (by decide) (by decide) dX0_addRange_8 ?_
    refine rw_i (v := nI ff) (if_neg (nI_nlt (Nat.le_of_lt hud) (by omega))) ?_
    refine lv_istore (lv' := [(4, .int (nI ff)), (3, .int (nI tt)), (0, .ref a), (1, .int (nI ff)), (2, .int (nI tt))]) hx hb dX0_addRange_11 hl (by decide) rfl (fun ls hl => ?_)
    refine lv_iload_n hx hb dX0_addRange_13 rfl (lv_at hl 1 rfl) ?_
    refine lv_istore (lv' := [(5, .int (nI tt)), (4, .int (nI ff)), (3, .int (nI tt)), (0, .ref a), (1, .int (nI ff)), (2, .int (nI tt))]) hx hb dX0_addRange_14 hl (by decide) rfl (fun ls hl => ?_)
    have lp_16 : ∀ (fu : Nat) (i : Nat), (i ≤ ff - tt + 1) → (∀ q, q < i → u4 (tt + q) = 0) → (ff - tt + 1) - i < fu → ∀ (H : Heap) (locs : List Loc), mw_Q (mw_A M s.heap.size) D vwCl M H → va_S (mw_A M s.heap.size) s.heap H locs → ∀ ls : Array Slot, lv_has ls 6 [(0, .ref a), (1, .int (nI ff)), (2, .int (nI tt)), (3, .int (nI tt)), (4, .int (nI ff)), (5, .int (nI (tt + i)))] → W p l e ({ frames := 1, cells := 0, slots := 0, locals := 22 } : Room) s m ([.ref a, .int (nI ff), .int (nI tt)] : List Value).toArray below meth c H locs 0 0 Q (F0 m 16 ls []) := by
      intro fu
      induction fu with
      | zero => intro i hi hal hn; exact absurd hn (Nat.not_lt_zero _)
      | succ fu ih_16 =>
        intro i hi hal hn H locs hP hS ls hl
        refine lv_iload hx hb dX0_addRange_16 (lv_at hl 5 rfl) ?_
        refine lv_iload hx hb dX0_addRange_18 (lv_at hl 4 rfl) ?_
        refine lv_icmp_gt (tgt := 41) hx hb dX0_addRange_20 (by decide) (fun c_20 => ?_) (fun c_20 => ?_)
        · have k_20 : ff < (tt + i) := nn_lt (a := ff) (b := (tt + i)) c_20 (by omega) (by omega)
          have hal9 : ∀ q, q < tcn false ff tt → u4 (tlo false ff tt + q) = 0 := fun q h => hal q (by have h : q < ff - tt + 1 := h; omega)
          refine lv_iload_n hx hb dX0_addRange_41 rfl (lv_at hl 3 rfl) ?_
          refine lv_istore (lv' := [(5, .int (nI tt)), (0, .ref a), (1, .int (nI ff)), (2, .int (nI tt)), (3, .int (nI tt)), (4, .int (nI ff))]) hx hb dX0_addRange_42 hl (by decide) rfl (fun ls hl => ?_)
          have lp_44 : ∀ (fu : Nat) (i : Nat) (M1 : mw), (i ≤ ff - tt + 1) → (M1 a = some (.inr (1, [.int al, .ref b4, .ref b5, .int nx]))) → (M1 b4 = some (.inl (k 0, 256, .inl (blk u3 tt i (fun q => nx + nI (dst false ff tt q)))))) → (M1 b5 = some (.inl (k 1, 256, .inl (blk u4 tt i (fun _ => 1))))) → (∀ x, x ≠ b4 → x ≠ b5 → M1 x = M x) → (ff - tt + 1) - i < fu → ∀ (H : Heap) (locs : List Loc), mw_Q (mw_A M s.heap.size) D vwCl M1 H → va_S (mw_A M s.heap.size) s.heap H locs → ∀ ls : Array Slot, lv_has ls 6 [(0, .ref a), (1, .int (nI ff)), (2, .int (nI tt)), (3, .int (nI tt)), (4, .int (nI ff)), (5, .int (nI (tt + i)))] → W p l e ({ frames := 1, cells := 0, slots := 0, locals := 22 } : Room) s m ([.ref a, .int (nI ff), .int (nI tt)] : List Value).toArray below meth c H locs 0 0 Q (F0 m 44 ls []) := by
            intro fu
            induction fu with
            | zero => intro i M1 hi g1 g2 g3 hf hn; exact absurd hn (Nat.not_lt_zero _)
            | succ fu ih_44 =>
              intro i M1 hi g1 g2 g3 hf hn H locs hP hS ls hl
              refine lv_iload hx hb dX0_addRange_44 (lv_at hl 5 rfl) ?_
              refine lv_iload hx hb dX0_addRange_46 (lv_at hl 4 rfl) ?_
              refine lv_icmp_gt (tgt := 84) hx hb dX0_addRange_48 (by decide) (fun c_48 => ?_) (fun c_48 => ?_)
              · have k_48 : ff < (tt + i) := nn_lt (a := ff) (b := (tt + i)) c_48 (by omega) (by omega)
                obtain rfl : i = ff - tt + 1 := by omega
                refine lv_aload_n hx hb dX0_addRange_84 rfl (lv_at hl 0 rfl) ?_
                refine lv_dup hx hb dX0_addRange_85 rfl ?_
                refine mw_get (v := .int nx) (ci := 1) (T := TX0) (N := 4) (C := RX0) hE iX0_addRange_X0 hP g1 rfl 3 (by decide) (hE.2.2.1 _ mX0_addRange_f19) rfl rfl dX0_addRange_86 ?_
                refine lv_iload hx hb dX0_addRange_89 (lv_at hl 4 rfl) ?_
                refine lv_iload_n hx hb dX0_addRange_91 rfl (lv_at hl 3 rfl) ?_
                refine lv_isub hx hb dX0_addRange_92 ?_
                refine rw_i (v := nI (ff - tt)) (pk_sub (by omega)) ?_
                refine lv_iconst (v := 1) hx hb dX0_addRange_93 (by decide) ?_
                refine lv_iadd hx hb dX0_addRange_94 ?_
                refine rw_i (v := nI ((ff - tt) + 1)) (nI_1 _) ?_
                refine lv_iadd hx hb dX0_addRange_95 ?_
                refine mw_put (ty := .int) (v := .int (nx + (nI ((ff - tt) + 1)))) (ci := 1) (T := TX0) (N := 4) (C := RX0) hE iX0_addRange_X0 tyX0 tyX0_ok nmX0 hP hS g1 rfl 3 (by decide) (hE.2.2.1 _ mX0_addRange_f19) rfl rfl (by decide +kernel) rfl rfl (Nat.le_of_ble_eq_true rfl) dX0_addRange_96 (fun H locs hP hS => ?_)
                obtain ⟨M_3, eM_3⟩ : ∃ Z, Z = mw_up M1 a (.inr (1, [.int al, .ref b4, .ref b5, .int (nx + (nI ((ff - tt) + 1)))])) := ⟨_, rfl⟩
                have hP : mw_Q (mw_A M s.heap.size) D vwCl M_3 H := by rw [eM_3]; exact hP
                have f_4 : M_3 a = some (.inr (1, [.int al, .ref b4, .ref b5, .int (nx + (nI ((ff - tt) + 1)))])) := by rw [eM_3]; exact mw_up_s
                have f_5 : M_3 b4 = some (.inl ((k 0), 256, .inl (blk u3 tt (ff - tt + 1) (fun q => nx + nI (dst false ff tt q))))) := by rw [eM_3, mw_up_n (fun h => by have h1 := g2; rw [h, g1] at h1; cases h1)]; exact g2
                have f_6 : M_3 b5 = some (.inl ((k 1), 256, .inl (blk u4 tt (ff - tt + 1) (fun _ => 1)))) := by rw [eM_3, mw_up_n (fun h => by have h1 := g3; rw [h, g1] at h1; cases h1)]; exact g3
                refine lv_aload_n hx hb dX0_addRange_99 rfl (lv_at hl 0 rfl) ?_
                refine mw_callv hP hS hA (va_runV (As := []) (rest := []) ⟨hx, hb, hml, hE.2.2.2.1, hE.2.2.1⟩ (tX0_rankThoseOutside l D k _ _ a b4 b5 al (nx + (nI ((ff - tt) + 1))) (blk u3 tt (ff - tt + 1) (fun q => nx + nI (dst false ff tt q))) (blk u4 tt (ff - tt + 1) (fun _ => 1)) f_4 f_5 f_6 hne) (cwV 0 hE.2.2.1 gX0_addRange_X0_rankThoseOutside rfl rfl rfl (by decide +kernel) ⟨(Nat.le_of_ble_eq_true rfl), (Nat.le_of_ble_eq_true rfl)⟩) (mw_preV hE hP (ci := 1) rfl rfl f_4 []) rfl rfl hl.1 rfl (lv_room (Nat.le_of_ble_eq_true rfl)) dX0_addRange_100 ⟨(Nat.le_of_ble_eq_true rfl), (Nat.le_of_ble_eq_true rfl)⟩) (fun M9 H locs hw hP hS => ?_)
                obtain ⟨h91, h92⟩ := hw
                refine lv_iconst (v := 1) hx hb dX0_addRange_103 (by decide) ?_
                rw [hQ]
                exact mw_zret (v := 1) (ty := .boolean) hE hr hlocks hP hS dX0_addRange_104 (rfl) (⟨false, ⟨fun h => absurd h (by decide), fun h => absurd h (by omega)⟩, Or.inr ⟨hal9, rfl, (h92 b5 (Ne.symm hne)).trans f_6, h91, (h92 a nab4).trans f_4, fun x h1 h2 h3 => by rw [h92 x h2, eM_3, mw_up_n h1]; exact hf x h2 h3⟩⟩)
              · have k_48 : (tt + i) ≤ ff := nn_nlt (a := ff) (b := (tt + i)) c_48 (by omega) (by omega)
                refine lv_aload_n hx hb dX0_addRange_51 rfl (lv_at hl 0 rfl) ?_
                refine mw_get (v := .ref b5) (ci := 1) (T := TX0) (N := 4) (C := RX0) hE iX0_addRange_X0 hP g1 rfl 2 (by decide) (hE.2.2.1 _ mX0_addRange_f15) rfl rfl dX0_addRange_52 ?_
                refine lv_iload hx hb dX0_addRange_55 (lv_at hl 5 rfl) ?_
                refine lv_iconst (v := 1) hx hb dX0_addRange_57 (by decide) ?_
                refine rw_zast hE hP hS 1 g3 rfl (by decide) (by decide) dX0_addRange_58 (by omega) (fun H locs hP hS => ?_)
                obtain ⟨M_7, eM_7⟩ : ∃ Z, Z = mw_up M1 b5 (.inl ((k 1), 256, .inl (upd (blk u4 tt i (fun _ => 1)) (tt + i) 1))) := ⟨_, rfl⟩
                have hP : mw_Q (mw_A M s.heap.size) D vwCl M_7 H := by rw [eM_7]; exact hP
                have f_8 : M_7 a = some (.inr (1, [.int al, .ref b4, .ref b5, .int nx])) := by rw [eM_7, mw_up_n (fun h => by have h1 := g1; rw [h, g3] at h1; cases h1)]; exact g1
                have f_9 : M_7 b4 = some (.inl ((k 0), 256, .inl (blk u3 tt i (fun q => nx + nI (dst false ff tt q))))) := by rw [eM_7, mw_up_n hne]; exact g2
                have f_10 : M_7 b5 = some (.inl ((k 1), 256, .inl (upd (blk u4 tt i (fun _ => 1)) (tt + i) 1))) := by rw [eM_7]; exact mw_up_s
                refine lv_aload_n hx hb dX0_addRange_59 rfl (lv_at hl 0 rfl) ?_
                refine mw_get (v := .ref b4) (ci := 1) (T := TX0) (N := 4) (C := RX0) hE iX0_addRange_X0 hP f_8 rfl 1 (by decide) (hE.2.2.1 _ mX0_addRange_f9) rfl rfl dX0_addRange_60 ?_
                refine lv_iload hx hb dX0_addRange_63 (lv_at hl 5 rfl) ?_
                refine lv_aload_n hx hb dX0_addRange_65 rfl (lv_at hl 0 rfl) ?_
                refine mw_get (v := .int nx) (ci := 1) (T := TX0) (N := 4) (C := RX0) hE iX0_addRange_X0 hP f_8 rfl 3 (by decide) (hE.2.2.1 _ mX0_addRange_f19) rfl rfl dX0_addRange_66 ?_
                refine lv_iload hx hb dX0_addRange_69 (lv_at hl 5 rfl) ?_
                refine lv_iload_n hx hb dX0_addRange_71 rfl (lv_at hl 1 rfl) ?_
                refine lv_isub hx hb dX0_addRange_72 ?_
                refine va_mabs hx hb (by rw [hml]; exact hl.1.symm) hE.2.2.2.1 (hE.2.2.1 _ mX0_addRange_ml44) (hE.2.2.1 _ mX0_addRange_stLibMathabsname) (hE.2.2.1 _ mX0_addRange_inijavalangMath) (hE.2.2.1 _ mX0_addRange_mathabs) (by decide) (Nat.le_of_ble_eq_true rfl) (by decide) (by decide) dX0_addRange_73 ?_
                refine rw_i (v := nI (dst false ff tt i)) (by rw [abs_dn (by omega) (by omega)]; exact congrArg nI (by show ff - (tt + i) = ff - tt - i; omega)) ?_
                refine lv_iadd hx hb dX0_addRange_76 ?_
                refine rw_iast hE hP hS 0 f_9 rfl (by decide) dX0_addRange_77 (by omega) (fun H locs hP hS => ?_)
                obtain ⟨M_11, eM_11⟩ : ∃ Z, Z = mw_up M_7 b4 (.inl ((k 0), 256, .inl (upd (blk u3 tt i (fun q => nx + nI (dst false ff tt q))) (tt + i) (nx + (nI (dst false ff tt i)))))) := ⟨_, rfl⟩
                have hP : mw_Q (mw_A M s.heap.size) D vwCl M_11 H := by rw [eM_11]; exact hP
                have f_12 : M_11 a = some (.inr (1, [.int al, .ref b4, .ref b5, .int nx])) := by rw [eM_11, mw_up_n (fun h => by have h1 := f_8; rw [h, f_9] at h1; cases h1)]; exact f_8
                have f_13 : M_11 b4 = some (.inl ((k 0), 256, .inl (upd (blk u3 tt i (fun q => nx + nI (dst false ff tt q))) (tt + i) (nx + (nI (dst false ff tt i)))))) := by rw [eM_11]; exact mw_up_s
                have f_14 : M_11 b5 = some (.inl ((k 1), 256, .inl (upd (blk u4 tt i (fun _ => 1)) (tt + i) 1))) := by rw [eM_11, mw_up_n (Ne.symm hne)]; exact f_10
                refine lv_iinc (v := nI ((tt + i) + 1)) (lv' := [(5, .int (nI ((tt + i) + 1))), (0, .ref a), (1, .int (nI ff)), (2, .int (nI tt)), (3, .int (nI tt)), (4, .int (nI ff))]) hx hb dX0_addRange_78 hl (k := 5) rfl (nI_1 (tt + i)) (by decide) rfl (fun ls hl => ?_)
                refine lv_goto (tgt := 44) hx hb dX0_addRange_81 (by decide) ?_
                have hfr9 : ∀ x, x ≠ b4 → x ≠ b5 → M_11 x = M x := fun x h1 h2 => by rw [eM_11, mw_up_n h1, eM_7, mw_up_n h2]; exact hf x h1 h2
                exact ih_44 (i + 1) M_11 (by omega) (f_12) (by rw [f_13, blk_s (by rfl)]) (by rw [f_14, blk_s (by rfl)]) (hfr9) (by omega) H locs hP hS ls (lv_sub hl [1, 2, 3, 4, 5, 0] rfl)
          exact lp_44 (300) 0 M (by omega) (fa) (by rw [blk_0]; exact fb) (by rw [blk_0]; exact fc) (fun _ _ _ => rfl) (by omega) _ _ hP hS ls (lv_sub hl [1, 2, 3, 4, 5, 0] rfl)
        · have k_20 : (tt + i) ≤ ff := nn_nlt (a := ff) (b := (tt + i)) c_20 (by omega) (by omega)
          refine lv_aload_n hx hb dX0_addRange_23 rfl (lv_at hl 0 rfl) ?_
          refine mw_get (v := .ref b5) (ci := 1) (T := TX0) (N := 4) (C := RX0) hE iX0_addRange_X0 hP fa rfl 2 (by decide) (hE.2.2.1 _ mX0_addRange_f15) rfl rfl dX0_addRange_24 ?_
          refine lv_iload hx hb dX0_addRange_27 (lv_at hl 5 rfl) ?_
          refine rw_zald hE hP 1 fc rfl (by decide) dX0_addRange_29 (by omega) ?_
          refine lv_if_eq (tgt := 35) hx hb dX0_addRange_30 (by decide) (fun c_30 => ?_) (fun c_30 => ?_)
          · refine lv_iinc (v := nI ((tt + i) + 1)) (lv' := [(5, .int (nI ((tt + i) + 1))), (0, .ref a), (1, .int (nI ff)), (2, .int (nI tt)), (3, .int (nI tt)), (4, .int (nI ff))]) hx hb dX0_addRange_35 hl (k := 5) rfl (nI_1 (tt + i)) (by decide) rfl (fun ls hl => ?_)
            refine lv_goto (tgt := 16) hx hb dX0_addRange_38 (by decide) ?_
            exact ih_16 (i + 1) (by omega) (lt_s (p := fun q => u4 (tt + q) = 0) hal c_30) (by omega) H locs hP hS ls (lv_sub hl [1, 2, 3, 4, 5, 0] rfl)
          · refine lv_iconst (v := 0) hx hb dX0_addRange_33 (by decide) ?_
            rw [hQ]
            exact mw_zret (v := 0) (ty := .boolean) hE hr hlocks hP hS dX0_addRange_34 (rfl) (⟨false, ⟨fun h => absurd h (by decide), fun h => absurd h (by omega)⟩, Or.inl ⟨⟨i, by show i < ff - tt + 1; omega, c_30⟩, rfl, rfl⟩⟩)
    exact lp_16 (300) 0 (by omega) (fun q h => absurd h (Nat.not_lt_zero _)) (by omega) _ _ hP hS ls (lv_sub hl [3, 4, 5, 2, 1, 0] rfl)
  · skip
    refine lv_iload_n hx hb dX0_addRange_0 rfl (lv_at hl 1 rfl) ?_
    refine lv_iload_n hx hb dX0_addRange_1 rfl (lv_at hl 2 rfl) ?_
    refine va_mmin hx hb (by rw [hml]; exact hl.1.symm) hE.2.2.2.1 (hE.2.2.1 _ mX0_addRange_ml35) (hE.2.2.1 _ mX0_addRange_stLibMathminname) (hE.2.2.1 _ mX0_addRange_inijavalangMath) (hE.2.2.1 _ mX0_addRange_mathmin) (by decide) (Nat.le_of_ble_eq_true rfl) (by decide) (by decide) dX0_addRange_2 ?_
    refine rw_i (v := nI ff) (if_neg (nI_nlt hud (by omega))) ?_
    refine lv_istore_n (lv' := [(3, .int (nI ff)), (0, .ref a), (1, .int (nI ff)), (2, .int (nI tt))]) hx hb dX0_addRange_5 rfl hl (by decide) rfl (fun ls hl => ?_)
    refine lv_iload_n hx hb dX0_addRange_6 rfl (lv_at hl 2 rfl) ?_
    refine lv_iload_n hx hb dX0_addRange_7 rfl (lv_at hl 3 rfl) ?_
    refine va_mmax hx hb (by rw [hml]; exact hl.1.symm) hE.2.2.2.1 (hE.2.2.1 _ mX0_addRange_ml41) (hE.2.2.1 _ mX0_addRange_stLibMathmaxname) (hE.2.2.1 _ mX0_addRange_inijavalangMath) (hE.2.2.1 _ mX0_addRange_mathmax) (by decide) (Nat.le_of_ble_eq_true rfl) (by decide) (by decide) dX0_addRange_8 ?_
    refine rw_i (v := nI tt) (max_up hud (by omega)) ?_
    refine lv_istore (lv' := [(4, .int (nI tt)), (3, .int (nI ff)), (0, .ref a), (1, .int (nI ff)), (2, .int (nI tt))]) hx hb dX0_addRange_11 hl (by decide) rfl (fun ls hl => ?_)
    refine lv_iload_n hx hb dX0_addRange_13 rfl (lv_at hl 1 rfl) ?_
    refine lv_istore (lv' := [(5, .int (nI ff)), (4, .int (nI tt)), (3, .int (nI ff)), (0, .ref a), (1, .int (nI ff)), (2, .int (nI tt))]) hx hb dX0_addRange_14 hl (by decide) rfl (fun ls hl => ?_)
    have lp_16 : ∀ (fu : Nat) (i : Nat), (i ≤ tt - ff + 1) → (∀ q, q < i → u4 (ff + q) = 0) → (tt - ff + 1) - i < fu → ∀ (H : Heap) (locs : List Loc), mw_Q (mw_A M s.heap.size) D vwCl M H → va_S (mw_A M s.heap.size) s.heap H locs → ∀ ls : Array Slot, lv_has ls 6 [(0, .ref a), (1, .int (nI ff)), (2, .int (nI tt)), (3, .int (nI ff)), (4, .int (nI tt)), (5, .int (nI (ff + i)))] → W p l e ({ frames := 1, cells := 0, slots := 0, locals := 22 } : Room) s m ([.ref a, .int (nI ff), .int (nI tt)] : List Value).toArray below meth c H locs 0 0 Q (F0 m 16 ls []) := by
      intro fu
      induction fu with
      | zero => intro i hi hal hn; exact absurd hn (Nat.not_lt_zero _)
      | succ fu ih_16 =>
        intro i hi hal hn H locs hP hS ls hl
        refine lv_iload hx hb dX0_addRange_16 (lv_at hl 5 rfl) ?_
        refine lv_iload hx hb dX0_addRange_18 (lv_at hl 4 rfl) ?_
        refine lv_icmp_gt (tgt := 41) hx hb dX0_addRange_20 (by decide) (fun c_20 => ?_) (fun c_20 => ?_)
        · have k_20 : tt < (ff + i) := nn_lt (a := tt) (b := (ff + i)) c_20 (by omega) (by omega)
          have hal9 : ∀ q, q < tcn true ff tt → u4 (tlo true ff tt + q) = 0 := fun q h => hal q (by have h : q < tt - ff + 1 := h; omega)
          refine lv_iload_n hx hb dX0_addRange_41 rfl (lv_at hl 3 rfl) ?_
          refine lv_istore (lv' := [(5, .int (nI ff)), (0, .ref a), (1, .int (nI ff)), (2, .int (nI tt)), (3, .int (nI ff)), (4, .int (nI tt))]) hx hb dX0_addRange_42 hl (by decide) rfl (fun ls hl => ?_)
          have lp_44 : ∀ (fu : Nat) (i : Nat) (M1 : mw), (i ≤ tt - ff + 1) → (M1 a = some (.inr (1, [.int al, .ref b4, .ref b5, .int nx]))) → (M1 b4 = some (.inl (k 0, 256, .inl (blk u3 ff i (fun q => nx + nI (dst true ff tt q)))))) → (M1 b5 = some (.inl (k 1, 256, .inl (blk u4 ff i (fun _ => 1))))) → (∀ x, x ≠ b4 → x ≠ b5 → M1 x = M x) → (tt - ff + 1) - i < fu → ∀ (H : Heap) (locs : List Loc), mw_Q (mw_A M s.heap.size) D vwCl M1 H → va_S (mw_A M s.heap.size) s.heap H locs → ∀ ls : Array Slot, lv_has ls 6 [(0, .ref a), (1, .int (nI ff)), (2, .int (nI tt)), (3, .int (nI ff)), (4, .int (nI tt)), (5, .int (nI (ff + i)))] → W p l e ({ frames := 1, cells := 0, slots := 0, locals := 22 } : Room) s m ([.ref a, .int (nI ff), .int (nI tt)] : List Value).toArray below meth c H locs 0 0 Q (F0 m 44 ls []) := by
            intro fu
            induction fu with
            | zero => intro i M1 hi g1 g2 g3 hf hn; exact absurd hn (Nat.not_lt_zero _)
            | succ fu ih_44 =>
              intro i M1 hi g1 g2 g3 hf hn H locs hP hS ls hl
              refine lv_iload hx hb dX0_addRange_44 (lv_at hl 5 rfl) ?_
              refine lv_iload hx hb dX0_addRange_46 (lv_at hl 4 rfl) ?_
              refine lv_icmp_gt (tgt := 84) hx hb dX0_addRange_48 (by decide) (fun c_48 => ?_) (fun c_48 => ?_)
              · have k_48 : tt < (ff + i) := nn_lt (a := tt) (b := (ff + i)) c_48 (by omega) (by omega)
                obtain rfl : i = tt - ff + 1 := by omega
                refine lv_aload_n hx hb dX0_addRange_84 rfl (lv_at hl 0 rfl) ?_
                refine lv_dup hx hb dX0_addRange_85 rfl ?_
                refine mw_get (v := .int nx) (ci := 1) (T := TX0) (N := 4) (C := RX0) hE iX0_addRange_X0 hP g1 rfl 3 (by decide) (hE.2.2.1 _ mX0_addRange_f19) rfl rfl dX0_addRange_86 ?_
                refine lv_iload hx hb dX0_addRange_89 (lv_at hl 4 rfl) ?_
                refine lv_iload_n hx hb dX0_addRange_91 rfl (lv_at hl 3 rfl) ?_
                refine lv_isub hx hb dX0_addRange_92 ?_
                refine rw_i (v := nI (tt - ff)) (pk_sub (by omega)) ?_
                refine lv_iconst (v := 1) hx hb dX0_addRange_93 (by decide) ?_
                refine lv_iadd hx hb dX0_addRange_94 ?_
                refine rw_i (v := nI ((tt - ff) + 1)) (nI_1 _) ?_
                refine lv_iadd hx hb dX0_addRange_95 ?_
                refine mw_put (ty := .int) (v := .int (nx + (nI ((tt - ff) + 1)))) (ci := 1) (T := TX0) (N := 4) (C := RX0) hE iX0_addRange_X0 tyX0 tyX0_ok nmX0 hP hS g1 rfl 3 (by decide) (hE.2.2.1 _ mX0_addRange_f19) rfl rfl (by decide +kernel) rfl rfl (Nat.le_of_ble_eq_true rfl) dX0_addRange_96 (fun H locs hP hS => ?_)
                obtain ⟨M_18, eM_18⟩ : ∃ Z, Z = mw_up M1 a (.inr (1, [.int al, .ref b4, .ref b5, .int (nx + (nI ((tt - ff) + 1)))])) := ⟨_, rfl⟩
                have hP : mw_Q (mw_A M s.heap.size) D vwCl M_18 H := by rw [eM_18]; exact hP
                have f_19 : M_18 a = some (.inr (1, [.int al, .ref b4, .ref b5, .int (nx + (nI ((tt - ff) + 1)))])) := by rw [eM_18]; exact mw_up_s
                have f_20 : M_18 b4 = some (.inl ((k 0), 256, .inl (blk u3 ff (tt - ff + 1) (fun q => nx + nI (dst true ff tt q))))) := by rw [eM_18, mw_up_n (fun h => by have h1 := g2; rw [h, g1] at h1; cases h1)]; exact g2
                have f_21 : M_18 b5 = some (.inl ((k 1), 256, .inl (blk u4 ff (tt - ff + 1) (fun _ => 1)))) := by rw [eM_18, mw_up_n (fun h => by have h1 := g3; rw [h, g1] at h1; cases h1)]; exact g3
                refine lv_aload_n hx hb dX0_addRange_99 rfl (lv_at hl 0 rfl) ?_
                refine mw_callv hP hS hA (va_runV (As := []) (rest := []) ⟨hx, hb, hml, hE.2.2.2.1, hE.2.2.1⟩ (tX0_rankThoseOutside l D k _ _ a b4 b5 al (nx + (nI ((tt - ff) + 1))) (blk u3 ff (tt - ff + 1) (fun q => nx + nI (dst true ff tt q))) (blk u4 ff (tt - ff + 1) (fun _ => 1)) f_19 f_20 f_21 hne) (cwV 0 hE.2.2.1 gX0_addRange_X0_rankThoseOutside rfl rfl rfl (by decide +kernel) ⟨(Nat.le_of_ble_eq_true rfl), (Nat.le_of_ble_eq_true rfl)⟩) (mw_preV hE hP (ci := 1) rfl rfl f_19 []) rfl rfl hl.1 rfl (lv_room (Nat.le_of_ble_eq_true rfl)) dX0_addRange_100 ⟨(Nat.le_of_ble_eq_true rfl), (Nat.le_of_ble_eq_true rfl)⟩) (fun M9 H locs hw hP hS => ?_)
                obtain ⟨h91, h92⟩ := hw
                refine lv_iconst (v := 1) hx hb dX0_addRange_103 (by decide) ?_
                rw [hQ]
                exact mw_zret (v := 1) (ty := .boolean) hE hr hlocks hP hS dX0_addRange_104 (rfl) (⟨true, ⟨fun _ => hud, fun _ => rfl⟩, Or.inr ⟨hal9, rfl, (h92 b5 (Ne.symm hne)).trans f_21, h91, (h92 a nab4).trans f_19, fun x h1 h2 h3 => by rw [h92 x h2, eM_18, mw_up_n h1]; exact hf x h2 h3⟩⟩)
              · have k_48 : (ff + i) ≤ tt := nn_nlt (a := tt) (b := (ff + i)) c_48 (by omega) (by omega)
                refine lv_aload_n hx hb dX0_addRange_51 rfl (lv_at hl 0 rfl) ?_
                refine mw_get (v := .ref b5) (ci := 1) (T := TX0) (N := 4) (C := RX0) hE iX0_addRange_X0 hP g1 rfl 2 (by decide) (hE.2.2.1 _ mX0_addRange_f15) rfl rfl dX0_addRange_52 ?_
                refine lv_iload hx hb dX0_addRange_55 (lv_at hl 5 rfl) ?_
                refine lv_iconst (v := 1) hx hb dX0_addRange_57 (by decide) ?_
                refine rw_zast hE hP hS 1 g3 rfl (by decide) (by decide) dX0_addRange_58 (by omega) (fun H locs hP hS => ?_)
                obtain ⟨M_22, eM_22⟩ : ∃ Z, Z = mw_up M1 b5 (.inl ((k 1), 256, .inl (upd (blk u4 ff i (fun _ => 1)) (ff + i) 1))) := ⟨_, rfl⟩
                have hP : mw_Q (mw_A M s.heap.size) D vwCl M_22 H := by rw [eM_22]; exact hP
                have f_23 : M_22 a = some (.inr (1, [.int al, .ref b4, .ref b5, .int nx])) := by rw [eM_22, mw_up_n (fun h => by have h1 := g1; rw [h, g3] at h1; cases h1)]; exact g1
                have f_24 : M_22 b4 = some (.inl ((k 0), 256, .inl (blk u3 ff i (fun q => nx + nI (dst true ff tt q))))) := by rw [eM_22, mw_up_n hne]; exact g2
                have f_25 : M_22 b5 = some (.inl ((k 1), 256, .inl (upd (blk u4 ff i (fun _ => 1)) (ff + i) 1))) := by rw [eM_22]; exact mw_up_s
                refine lv_aload_n hx hb dX0_addRange_59 rfl (lv_at hl 0 rfl) ?_
                refine mw_get (v := .ref b4) (ci := 1) (T := TX0) (N := 4) (C := RX0) hE iX0_addRange_X0 hP f_23 rfl 1 (by decide) (hE.2.2.1 _ mX0_addRange_f9) rfl rfl dX0_addRange_60 ?_
                refine lv_iload hx hb dX0_addRange_63 (lv_at hl 5 rfl) ?_
                refine lv_aload_n hx hb dX0_addRange_65 rfl (lv_at hl 0 rfl) ?_
                refine mw_get (v := .int nx) (ci := 1) (T := TX0) (N := 4) (C := RX0) hE iX0_addRange_X0 hP f_23 rfl 3 (by decide) (hE.2.2.1 _ mX0_addRange_f19) rfl rfl dX0_addRange_66 ?_
                refine lv_iload hx hb dX0_addRange_69 (lv_at hl 5 rfl) ?_
                refine lv_iload_n hx hb dX0_addRange_71 rfl (lv_at hl 1 rfl) ?_
                refine lv_isub hx hb dX0_addRange_72 ?_
                refine va_mabs hx hb (by rw [hml]; exact hl.1.symm) hE.2.2.2.1 (hE.2.2.1 _ mX0_addRange_ml44) (hE.2.2.1 _ mX0_addRange_stLibMathabsname) (hE.2.2.1 _ mX0_addRange_inijavalangMath) (hE.2.2.1 _ mX0_addRange_mathabs) (by decide) (Nat.le_of_ble_eq_true rfl) (by decide) (by decide) dX0_addRange_73 ?_
                refine rw_i (v := nI (dst true ff tt i)) (by rw [abs_up (by omega) (by omega)]; exact congrArg nI (by show ff + i - ff = i; omega)) ?_
                refine lv_iadd hx hb dX0_addRange_76 ?_
                refine rw_iast hE hP hS 0 f_24 rfl (by decide) dX0_addRange_77 (by omega) (fun H locs hP hS => ?_)
                obtain ⟨M_26, eM_26⟩ : ∃ Z, Z = mw_up M_22 b4 (.inl ((k 0), 256, .inl (upd (blk u3 ff i (fun q => nx + nI (dst true ff tt q))) (ff + i) (nx + (nI (dst true ff tt i)))))) := ⟨_, rfl⟩
                have hP : mw_Q (mw_A M s.heap.size) D vwCl M_26 H := by rw [eM_26]; exact hP
                have f_27 : M_26 a = some (.inr (1, [.int al, .ref b4, .ref b5, .int nx])) := by rw [eM_26, mw_up_n (fun h => by have h1 := f_23; rw [h, f_24] at h1; cases h1)]; exact f_23
                have f_28 : M_26 b4 = some (.inl ((k 0), 256, .inl (upd (blk u3 ff i (fun q => nx + nI (dst true ff tt q))) (ff + i) (nx + (nI (dst true ff tt i)))))) := by rw [eM_26]; exact mw_up_s
                have f_29 : M_26 b5 = some (.inl ((k 1), 256, .inl (upd (blk u4 ff i (fun _ => 1)) (ff + i) 1))) := by rw [eM_26, mw_up_n (Ne.symm hne)]; exact f_25
                refine lv_iinc (v := nI ((ff + i) + 1)) (lv' := [(5, .int (nI ((ff + i) + 1))), (0, .ref a), (1, .int (nI ff)), (2, .int (nI tt)), (3, .int (nI ff)), (4, .int (nI tt))]) hx hb dX0_addRange_78 hl (k := 5) rfl (nI_1 (ff + i)) (by decide) rfl (fun ls hl => ?_)
                refine lv_goto (tgt := 44) hx hb dX0_addRange_81 (by decide) ?_
                have hfr9 : ∀ x, x ≠ b4 → x ≠ b5 → M_26 x = M x := fun x h1 h2 => by rw [eM_26, mw_up_n h1, eM_22, mw_up_n h2]; exact hf x h1 h2
                exact ih_44 (i + 1) M_26 (by omega) (f_27) (by rw [f_28, blk_s (by rfl)]) (by rw [f_29, blk_s (by rfl)]) (hfr9) (by omega) H locs hP hS ls (lv_sub hl [1, 2, 3, 4, 5, 0] rfl)
          exact lp_44 (300) 0 M (by omega) (fa) (by rw [blk_0]; exact fb) (by rw [blk_0]; exact fc) (fun _ _ _ => rfl) (by omega) _ _ hP hS ls (lv_sub hl [1, 2, 3, 4, 5, 0] rfl)
        · have k_20 : (ff + i) ≤ tt := nn_nlt (a := tt) (b := (ff + i)) c_20 (by omega) (by omega)
          refine lv_aload_n hx hb dX0_addRange_23 rfl (lv_at hl 0 rfl) ?_
          refine mw_get (v := .ref b5) (ci := 1) (T := TX0) (N := 4) (C := RX0) hE iX0_addRange_X0 hP fa rfl 2 (by decide) (hE.2.2.1 _ mX0_addRange_f15) rfl rfl dX0_addRange_24 ?_
          refine lv_iload hx hb dX0_addRange_27 (lv_at hl 5 rfl) ?_
          refine rw_zald hE hP 1 fc rfl (by decide) dX0_addRange_29 (by omega) ?_
          refine lv_if_eq (tgt := 35) hx hb dX0_addRange_30 (by decide) (fun c_30 => ?_) (fun c_30 => ?_)
          · refine lv_iinc (v := nI ((ff + i) + 1)) (lv' := [(5, .int (nI ((ff + i) + 1))), (0, .ref a), (1, .int (nI ff)), (2, .int (nI tt)), (3, .int (nI ff)), (4, .int (nI tt))]) hx hb dX0_addRange_35 hl (k := 5) rfl (nI_1 (ff + i)) (by decide) rfl (fun ls hl => ?_)
            refine lv_goto (tgt := 16) hx hb dX0_addRange_38 (by decide) ?_
            exact ih_16 (i + 1) (by omega) (lt_s (p := fun q => u4 (ff + q) = 0) hal c_30) (by omega) H locs hP hS ls (lv_sub hl [1, 2, 3, 4, 5, 0] rfl)
          · refine lv_iconst (v := 0) hx hb dX0_addRange_33 (by decide) ?_
            rw [hQ]
            exact mw_zret (v := 0) (ty := .boolean) hE hr hlocks hP hS dX0_addRange_34 (rfl) (⟨true, ⟨fun _ => hud, fun _ => rfl⟩, Or.inl ⟨⟨i, by show i < tt - ff + 1; omega, c_30⟩, rfl, rfl⟩⟩)
    exact lp_16 (300) 0 (by omega) (fun q h => absurd h (Nat.not_lt_zero _)) (by omega) _ _ hP hS ls (lv_sub hl [3, 4, 5, 2, 1, 0] rfl)
