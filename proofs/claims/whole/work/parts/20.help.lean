set_option maxHeartbeats 4000000 in
set_option maxRecDepth 100000 in
theorem tX3_isCode (l : Launch) (D : va_G) (k : Nat → ClassId) (M : mw) (sz : Nat) (x : Int32) : Met l yX3_isCode wsX3_isCode ({ frames := 0, cells := 0, slots := 0, locals := 0 }) (va_Pc [.int x] (mw_U D vwCl (TY k) M sz)) (va_Qi (fun r M1 => M1 = M ∧ (vp_in x 256 ∧ r = 1 ∨ ¬ vp_in x 256 ∧ r = 0)) (mw_B D vwCl M sz) (mw_A M sz)) 0 0 (mw_A M sz) := by
  refine mw_met (cc := cX3_isCode) (maxL := 1) (ret := (some .boolean)) (lv := [(0, .int x)]) (by decide) rfl (Nat.le_of_ble_eq_true rfl) rfl ?_
  intro p e s m below meth c ls hE hr hlocks hin hml hsz hP hS hl
  subst hsz
  have hx := hE.1
  have hb := hE.2.1
  have hA : ∀ q, s.heap.size ≤ q → mw_A M s.heap.size q := fun q h => Or.inr h
  refine lv_iload_n hx hb dX3_isCode_0 rfl (lv_at hl 0 rfl) ?_
  refine lv_if_lt (tgt := 15) hx hb dX3_isCode_1 (by decide) (fun c_1 => ?_) (fun c_1 => ?_)
  · refine lv_iconst (v := 0) hx hb dX3_isCode_15 (by decide) ?_
    exact mw_zret (v := 0) (ty := .boolean) hE hr hlocks hP hS dX3_isCode_16 (rfl) (by refine ⟨rfl, ?_⟩; simp only [rw_in (n := 256) (by decide)]; simp [c_1])
  · refine lv_iload_n hx hb dX3_isCode_4 rfl (lv_at hl 0 rfl) ?_
    refine lv_sipush (v := nI 256) hx hb dX3_isCode_5 (by decide) ?_
    refine lv_icmp_ge (tgt := 15) hx hb dX3_isCode_8 (by decide) (fun c_8 => ?_) (fun c_8 => ?_)
    · refine lv_iconst (v := 0) hx hb dX3_isCode_15 (by decide) ?_
      exact mw_zret (v := 0) (ty := .boolean) hE hr hlocks hP hS dX3_isCode_16 (rfl) (by refine ⟨rfl, ?_⟩; simp only [rw_in (n := 256) (by decide)]; simp [c_1, c_8])
    · refine lv_iconst (v := 1) hx hb dX3_isCode_11 (by decide) ?_
      refine lv_goto (tgt := 16) hx hb dX3_isCode_12 (by decide) ?_
      exact mw_zret (v := 1) (ty := .boolean) hE hr hlocks hP hS dX3_isCode_16 (rfl) (by refine ⟨rfl, ?_⟩; simp only [rw_in (n := 256) (by decide)]; simp [c_1, c_8])

set_option maxHeartbeats 4000000 in
set_option maxRecDepth 100000 in
theorem tX3_isKind (l : Launch) (D : va_G) (k : Nat → ClassId) (M : mw) (sz : Nat) (x : Int32) : Met l yX3_isKind wsX3_isKind ({ frames := 0, cells := 0, slots := 0, locals := 0 }) (va_Pc [.int x] (mw_U D vwCl (TY k) M sz)) (va_Qi (fun r M1 => M1 = M ∧ (vp_in x 3 ∧ r = 1 ∨ ¬ vp_in x 3 ∧ r = 0)) (mw_B D vwCl M sz) (mw_A M sz)) 0 0 (mw_A M sz) := by
  refine mw_met (cc := cX3_isKind) (maxL := 1) (ret := (some .boolean)) (lv := [(0, .int x)]) (by decide) rfl (Nat.le_of_ble_eq_true rfl) rfl ?_
  intro p e s m below meth c ls hE hr hlocks hin hml hsz hP hS hl
  subst hsz
  have hx := hE.1
  have hb := hE.2.1
  have hA : ∀ q, s.heap.size ≤ q → mw_A M s.heap.size q := fun q h => Or.inr h
  refine lv_iload_n hx hb dX3_isKind_0 rfl (lv_at hl 0 rfl) ?_
  refine lv_if_lt (tgt := 13) hx hb dX3_isKind_1 (by decide) (fun c_1 => ?_) (fun c_1 => ?_)
  · refine lv_iconst (v := 0) hx hb dX3_isKind_13 (by decide) ?_
    exact mw_zret (v := 0) (ty := .boolean) hE hr hlocks hP hS dX3_isKind_14 (rfl) (by refine ⟨rfl, ?_⟩; simp only [rw_in (n := 3) (by decide)]; simp [c_1])
  · refine lv_iload_n hx hb dX3_isKind_4 rfl (lv_at hl 0 rfl) ?_
    refine lv_iconst (v := nI 3) hx hb dX3_isKind_5 (by decide) ?_
    refine lv_icmp_ge (tgt := 13) hx hb dX3_isKind_6 (by decide) (fun c_6 => ?_) (fun c_6 => ?_)
    · refine lv_iconst (v := 0) hx hb dX3_isKind_13 (by decide) ?_
      exact mw_zret (v := 0) (ty := .boolean) hE hr hlocks hP hS dX3_isKind_14 (rfl) (by refine ⟨rfl, ?_⟩; simp only [rw_in (n := 3) (by decide)]; simp [c_1, c_6])
    · refine lv_iconst (v := 1) hx hb dX3_isKind_9 (by decide) ?_
      refine lv_goto (tgt := 14) hx hb dX3_isKind_10 (by decide) ?_
      exact mw_zret (v := 1) (ty := .boolean) hE hr hlocks hP hS dX3_isKind_14 (rfl) (by refine ⟨rfl, ?_⟩; simp only [rw_in (n := 3) (by decide)]; simp [c_1, c_6])

set_option maxHeartbeats 4000000 in
set_option maxRecDepth 100000 in
theorem tX4_isCode (l : Launch) (D : va_G) (k : Nat → ClassId) (M : mw) (sz : Nat) (x : Int32) : Met l yX4_isCode wsX4_isCode ({ frames := 0, cells := 0, slots := 0, locals := 0 }) (va_Pc [.int x] (mw_U D vwCl (TY k) M sz)) (va_Qi (fun r M1 => M1 = M ∧ (vp_in x 256 ∧ r = 1 ∨ ¬ vp_in x 256 ∧ r = 0)) (mw_B D vwCl M sz) (mw_A M sz)) 0 0 (mw_A M sz) := by
  refine mw_met (cc := cX4_isCode) (maxL := 1) (ret := (some .boolean)) (lv := [(0, .int x)]) (by decide) rfl (Nat.le_of_ble_eq_true rfl) rfl ?_
  intro p e s m below meth c ls hE hr hlocks hin hml hsz hP hS hl
  subst hsz
  have hx := hE.1
  have hb := hE.2.1
  have hA : ∀ q, s.heap.size ≤ q → mw_A M s.heap.size q := fun q h => Or.inr h
  refine lv_iload_n hx hb dX4_isCode_0 rfl (lv_at hl 0 rfl) ?_
  refine lv_if_lt (tgt := 15) hx hb dX4_isCode_1 (by decide) (fun c_1 => ?_) (fun c_1 => ?_)
  · refine lv_iconst (v := 0) hx hb dX4_isCode_15 (by decide) ?_
    exact mw_zret (v := 0) (ty := .boolean) hE hr hlocks hP hS dX4_isCode_16 (rfl) (by refine ⟨rfl, ?_⟩; simp only [rw_in (n := 256) (by decide)]; simp [c_1])
  · refine lv_iload_n hx hb dX4_isCode_4 rfl (lv_at hl 0 rfl) ?_
    refine lv_sipush (v := nI 256) hx hb dX4_isCode_5 (by decide) ?_
    refine lv_icmp_ge (tgt := 15) hx hb dX4_isCode_8 (by decide) (fun c_8 => ?_) (fun c_8 => ?_)
    · refine lv_iconst (v := 0) hx hb dX4_isCode_15 (by decide) ?_
      exact mw_zret (v := 0) (ty := .boolean) hE hr hlocks hP hS dX4_isCode_16 (rfl) (by refine ⟨rfl, ?_⟩; simp only [rw_in (n := 256) (by decide)]; simp [c_1, c_8])
    · refine lv_iconst (v := 1) hx hb dX4_isCode_11 (by decide) ?_
      refine lv_goto (tgt := 16) hx hb dX4_isCode_12 (by decide) ?_
      exact mw_zret (v := 1) (ty := .boolean) hE hr hlocks hP hS dX4_isCode_16 (rfl) (by refine ⟨rfl, ?_⟩; simp only [rw_in (n := 256) (by decide)]; simp [c_1, c_8])

set_option maxRecDepth 20000 in
theorem mX3_isMeaningOrNone_k150 : Cond.constant RX3 150 (65536) ∈ wsX3_isMeaningOrNone := by decide +kernel
set_option maxHeartbeats 4000000 in
set_option maxRecDepth 100000 in
theorem tX3_isMeaningOrNone (l : Launch) (D : va_G) (k : Nat → ClassId) (M : mw) (sz : Nat) (x : Int32) : Met l yX3_isMeaningOrNone wsX3_isMeaningOrNone ({ frames := 0, cells := 0, slots := 0, locals := 0 }) (va_Pc [.int x] (mw_U D vwCl (TY k) M sz)) (va_Qi (fun r M1 => M1 = M ∧ (okm x ∧ r = 1 ∨ ¬ okm x ∧ r = 0)) (mw_B D vwCl M sz) (mw_A M sz)) 0 0 (mw_A M sz) := by
  refine mw_met (cc := cX3_isMeaningOrNone) (maxL := 1) (ret := (some .boolean)) (lv := [(0, .int x)]) (by decide) rfl (Nat.le_of_ble_eq_true rfl) rfl ?_
  intro p e s m below meth c ls hE hr hlocks hin hml hsz hP hS hl
  subst hsz
  have hx := hE.1
  have hb := hE.2.1
  have hA : ∀ q, s.heap.size ≤ q → mw_A M s.heap.size q := fun q h => Or.inr h
  refine lv_iload_n hx hb dX3_isMeaningOrNone_0 rfl (lv_at hl 0 rfl) ?_
  refine lv_iconst (v := (-1)) hx hb dX3_isMeaningOrNone_1 (by decide) ?_
  refine lv_icmp_eq (tgt := 15) hx hb dX3_isMeaningOrNone_2 (by decide) (fun c_2 => ?_) (fun c_2 => ?_)
  · refine lv_iconst (v := 1) hx hb dX3_isMeaningOrNone_15 (by decide) ?_
    refine lv_goto (tgt := 20) hx hb dX3_isMeaningOrNone_16 (by decide) ?_
    exact mw_zret (v := 1) (ty := .boolean) hE hr hlocks hP hS dX3_isMeaningOrNone_20 (rfl) (by refine ⟨rfl, ?_⟩; simp only [okm, rw_in (n := 65536) (by decide)]; simp [c_2])
  · refine lv_iload_n hx hb dX3_isMeaningOrNone_5 rfl (lv_at hl 0 rfl) ?_
    refine lv_if_lt (tgt := 19) hx hb dX3_isMeaningOrNone_6 (by decide) (fun c_6 => ?_) (fun c_6 => ?_)
    · refine lv_iconst (v := 0) hx hb dX3_isMeaningOrNone_19 (by decide) ?_
      exact mw_zret (v := 0) (ty := .boolean) hE hr hlocks hP hS dX3_isMeaningOrNone_20 (rfl) (by refine ⟨rfl, ?_⟩; simp only [okm, rw_in (n := 65536) (by decide)]; simp [c_2, c_6])
    · refine lv_iload_n hx hb dX3_isMeaningOrNone_9 rfl (lv_at hl 0 rfl) ?_
      refine lv_ldc (v := nI 65536) hx hb hE.2.2.2.1 (hE.2.2.1 _ mX3_isMeaningOrNone_k150) dX3_isMeaningOrNone_10 ?_
      refine lv_icmp_ge (tgt := 19) hx hb dX3_isMeaningOrNone_12 (by decide) (fun c_12 => ?_) (fun c_12 => ?_)
      · refine lv_iconst (v := 0) hx hb dX3_isMeaningOrNone_19 (by decide) ?_
        exact mw_zret (v := 0) (ty := .boolean) hE hr hlocks hP hS dX3_isMeaningOrNone_20 (rfl) (by refine ⟨rfl, ?_⟩; simp only [okm, rw_in (n := 65536) (by decide)]; simp [c_2, c_6, c_12])
      · refine lv_iconst (v := 1) hx hb dX3_isMeaningOrNone_15 (by decide) ?_
        refine lv_goto (tgt := 20) hx hb dX3_isMeaningOrNone_16 (by decide) ?_
        exact mw_zret (v := 1) (ty := .boolean) hE hr hlocks hP hS dX3_isMeaningOrNone_20 (rfl) (by refine ⟨rfl, ?_⟩; simp only [okm, rw_in (n := 65536) (by decide)]; simp [c_2, c_6, c_12])

set_option maxHeartbeats 4000000 in
set_option maxRecDepth 100000 in
theorem tX3_isGreatLetter (l : Launch) (D : va_G) (k : Nat → ClassId) (M : mw) (sz : Nat) (x : Int32) : Met l yX3_isGreatLetter wsX3_isGreatLetter ({ frames := 0, cells := 0, slots := 0, locals := 0 }) (va_Pc [.int x] (mw_U D vwCl (TY k) M sz)) (va_Qi (fun r M1 => M1 = M ∧ r = bz (¬ x < nI 65 ∧ ¬ nI 90 < x)) (mw_B D vwCl M sz) (mw_A M sz)) 0 0 (mw_A M sz) := by
  refine mw_met (cc := cX3_isGreatLetter) (maxL := 1) (ret := (some .boolean)) (lv := [(0, .int x)]) (by decide) rfl (Nat.le_of_ble_eq_true rfl) rfl ?_
  intro p e s m below meth c ls hE hr hlocks hin hml hsz hP hS hl
  subst hsz
  have hx := hE.1
  have hb := hE.2.1
  have hA : ∀ q, s.heap.size ≤ q → mw_A M s.heap.size q := fun q h => Or.inr h
  refine lv_iload_n hx hb dX3_isGreatLetter_0 rfl (lv_at hl 0 rfl) ?_
  refine lv_bipush (v := nI 65) hx hb dX3_isGreatLetter_1 (by decide) ?_
  refine lv_icmp_lt (tgt := 16) hx hb dX3_isGreatLetter_3 (by decide) (fun c_3 => ?_) (fun c_3 => ?_)
  · refine lv_iconst (v := 0) hx hb dX3_isGreatLetter_16 (by decide) ?_
    exact mw_zret (v := 0) (ty := .boolean) hE hr hlocks hP hS dX3_isGreatLetter_17 (rfl) (by refine ⟨rfl, ?_⟩; simp [c_3, bz])
  · refine lv_iload_n hx hb dX3_isGreatLetter_6 rfl (lv_at hl 0 rfl) ?_
    refine lv_bipush (v := nI 90) hx hb dX3_isGreatLetter_7 (by decide) ?_
    refine lv_icmp_gt (tgt := 16) hx hb dX3_isGreatLetter_9 (by decide) (fun c_9 => ?_) (fun c_9 => ?_)
    · refine lv_iconst (v := 0) hx hb dX3_isGreatLetter_16 (by decide) ?_
      exact mw_zret (v := 0) (ty := .boolean) hE hr hlocks hP hS dX3_isGreatLetter_17 (rfl) (by refine ⟨rfl, ?_⟩; simp [c_3, c_9, bz])
    · refine lv_iconst (v := 1) hx hb dX3_isGreatLetter_12 (by decide) ?_
      refine lv_goto (tgt := 17) hx hb dX3_isGreatLetter_13 (by decide) ?_
      exact mw_zret (v := 1) (ty := .boolean) hE hr hlocks hP hS dX3_isGreatLetter_17 (rfl) (by refine ⟨rfl, ?_⟩; simp [c_3, c_9, bz])

set_option maxHeartbeats 4000000 in
set_option maxRecDepth 100000 in
theorem tX3_isSmallLetter (l : Launch) (D : va_G) (k : Nat → ClassId) (M : mw) (sz : Nat) (x : Int32) : Met l yX3_isSmallLetter wsX3_isSmallLetter ({ frames := 0, cells := 0, slots := 0, locals := 0 }) (va_Pc [.int x] (mw_U D vwCl (TY k) M sz)) (va_Qi (fun r M1 => M1 = M ∧ r = bz (¬ x < nI 97 ∧ ¬ nI 122 < x)) (mw_B D vwCl M sz) (mw_A M sz)) 0 0 (mw_A M sz) := by
  refine mw_met (cc := cX3_isSmallLetter) (maxL := 1) (ret := (some .boolean)) (lv := [(0, .int x)]) (by decide) rfl (Nat.le_of_ble_eq_true rfl) rfl ?_
  intro p e s m below meth c ls hE hr hlocks hin hml hsz hP hS hl
  subst hsz
  have hx := hE.1
  have hb := hE.2.1
  have hA : ∀ q, s.heap.size ≤ q → mw_A M s.heap.size q := fun q h => Or.inr h
  refine lv_iload_n hx hb dX3_isSmallLetter_0 rfl (lv_at hl 0 rfl) ?_
  refine lv_bipush (v := nI 97) hx hb dX3_isSmallLetter_1 (by decide) ?_
  refine lv_icmp_lt (tgt := 16) hx hb dX3_isSmallLetter_3 (by decide) (fun c_3 => ?_) (fun c_3 => ?_)
  · refine lv_iconst (v := 0) hx hb dX3_isSmallLetter_16 (by decide) ?_
    exact mw_zret (v := 0) (ty := .boolean) hE hr hlocks hP hS dX3_isSmallLetter_17 (rfl) (by refine ⟨rfl, ?_⟩; simp [c_3, bz])
  · refine lv_iload_n hx hb dX3_isSmallLetter_6 rfl (lv_at hl 0 rfl) ?_
    refine lv_bipush (v := nI 122) hx hb dX3_isSmallLetter_7 (by decide) ?_
    refine lv_icmp_gt (tgt := 16) hx hb dX3_isSmallLetter_9 (by decide) (fun c_9 => ?_) (fun c_9 => ?_)
    · refine lv_iconst (v := 0) hx hb dX3_isSmallLetter_16 (by decide) ?_
      exact mw_zret (v := 0) (ty := .boolean) hE hr hlocks hP hS dX3_isSmallLetter_17 (rfl) (by refine ⟨rfl, ?_⟩; simp [c_3, c_9, bz])
    · refine lv_iconst (v := 1) hx hb dX3_isSmallLetter_12 (by decide) ?_
      refine lv_goto (tgt := 17) hx hb dX3_isSmallLetter_13 (by decide) ?_
      exact mw_zret (v := 1) (ty := .boolean) hE hr hlocks hP hS dX3_isSmallLetter_17 (rfl) (by refine ⟨rfl, ?_⟩; simp [c_3, c_9, bz])

set_option maxHeartbeats 4000000 in
set_option maxRecDepth 100000 in
theorem tX3_hexDigit (l : Launch) (D : va_G) (k : Nat → ClassId) (M : mw) (sz : Nat) (q : Nat) (hq : q < 16) : Met l yX3_hexDigit wsX3_hexDigit ({ frames := 0, cells := 0, slots := 0, locals := 0 }) (va_Pc [.int (nI q)] (mw_U D vwCl (TY k) M sz)) (va_Qi (fun r M1 => M1 = M ∧ r = nI (hexn q)) (mw_B D vwCl M sz) (mw_A M sz)) 0 0 (mw_A M sz) := by
  refine mw_met (cc := cX3_hexDigit) (maxL := 1) (ret := (some .int)) (lv := [(0, .int (nI q))]) (by decide) rfl (Nat.le_of_ble_eq_true rfl) rfl ?_
  intro p e s m below meth c ls hE hr hlocks hin hml hsz hP hS hl
  subst hsz
  have hx := hE.1
  have hb := hE.2.1
  have hA : ∀ q, s.heap.size ≤ q → mw_A M s.heap.size q := fun q h => Or.inr h
  refine lv_iload_n hx hb dX3_hexDigit_0 rfl (lv_at hl 0 rfl) ?_
  refine lv_bipush (v := nI 10) hx hb dX3_hexDigit_1 (by decide) ?_
  refine lv_icmp_ge (tgt := 13) hx hb dX3_hexDigit_3 (by decide) (fun c_3 => ?_) (fun c_3 => ?_)
  · have k_3 : 10 ≤ q := nn_le (a := 10) (b := q) c_3 (by omega) (by omega)
    refine lv_bipush (v := nI 55) hx hb dX3_hexDigit_13 (by decide) ?_
    refine lv_iload_n hx hb dX3_hexDigit_15 rfl (lv_at hl 0 rfl) ?_
    refine lv_iadd hx hb dX3_hexDigit_16 ?_
    refine rw_i (v := nI (55 + q)) (nI_add _ _) ?_
    exact mw_iret (v := nI (55 + q)) hE hr hlocks hP hS dX3_hexDigit_17 (⟨rfl, by unfold hexn; rw [if_neg (by omega)]⟩)
  · have k_3 : q < 10 := nn_nle (a := 10) (b := q) c_3 (by omega) (by omega)
    refine lv_bipush (v := nI 48) hx hb dX3_hexDigit_6 (by decide) ?_
    refine lv_iload_n hx hb dX3_hexDigit_8 rfl (lv_at hl 0 rfl) ?_
    refine lv_iadd hx hb dX3_hexDigit_9 ?_
    refine rw_i (v := nI (48 + q)) (nI_add _ _) ?_
    refine lv_goto (tgt := 17) hx hb dX3_hexDigit_10 (by decide) ?_
    exact mw_iret (v := nI (48 + q)) hE hr hlocks hP hS dX3_hexDigit_17 (⟨rfl, by unfold hexn; rw [if_pos k_3]⟩)

set_option maxHeartbeats 4000000 in
set_option maxRecDepth 100000 in
theorem tX4_half (l : Launch) (D : va_G) (k : Nat → ClassId) (M : mw) (sz : Nat) (q : Nat) (hq : q < 16) : Met l yX4_half wsX4_half ({ frames := 0, cells := 0, slots := 0, locals := 0 }) (va_Pc [.int (nI q)] (mw_U D vwCl (TY k) M sz)) (va_Qi (fun r M1 => M1 = M ∧ r = nI (hexn q)) (mw_B D vwCl M sz) (mw_A M sz)) 0 0 (mw_A M sz) := by
  refine mw_met (cc := cX4_half) (maxL := 1) (ret := (some .byte)) (lv := [(0, .int (nI q))]) (by decide) rfl (Nat.le_of_ble_eq_true rfl) rfl ?_
  intro p e s m below meth c ls hE hr hlocks hin hml hsz hP hS hl
  subst hsz
  have hx := hE.1
  have hb := hE.2.1
  have hA : ∀ q, s.heap.size ≤ q → mw_A M s.heap.size q := fun q h => Or.inr h
  refine lv_iload_n hx hb dX4_half_0 rfl (lv_at hl 0 rfl) ?_
  refine lv_bipush (v := nI 10) hx hb dX4_half_1 (by decide) ?_
  refine lv_icmp_ge (tgt := 13) hx hb dX4_half_3 (by decide) (fun c_3 => ?_) (fun c_3 => ?_)
  · have k_3 : 10 ≤ q := nn_le (a := 10) (b := q) c_3 (by omega) (by omega)
    refine lv_bipush (v := nI 55) hx hb dX4_half_13 (by decide) ?_
    refine lv_iload_n hx hb dX4_half_15 rfl (lv_at hl 0 rfl) ?_
    refine lv_iadd hx hb dX4_half_16 ?_
    refine rw_i (v := nI (55 + q)) (nI_add _ _) ?_
    refine lv_i2b (v := nI (55 + q)) hx hb dX4_half_17 (byte_ok (by omega)) ?_
    exact mw_zret (v := nI (55 + q)) (ty := .byte) hE hr hlocks hP hS dX4_half_18 (byte_nar (by omega)) (⟨rfl, by unfold hexn; rw [if_neg (by omega)]⟩)
  · have k_3 : q < 10 := nn_nle (a := 10) (b := q) c_3 (by omega) (by omega)
    refine lv_bipush (v := nI 48) hx hb dX4_half_6 (by decide) ?_
    refine lv_iload_n hx hb dX4_half_8 rfl (lv_at hl 0 rfl) ?_
    refine lv_iadd hx hb dX4_half_9 ?_
    refine rw_i (v := nI (48 + q)) (nI_add _ _) ?_
    refine lv_goto (tgt := 17) hx hb dX4_half_10 (by decide) ?_
    refine lv_i2b (v := nI (48 + q)) hx hb dX4_half_17 (byte_ok (by omega)) ?_
    exact mw_zret (v := nI (48 + q)) (ty := .byte) hE hr hlocks hP hS dX4_half_18 (byte_nar (by omega)) (⟨rfl, by unfold hexn; rw [if_pos k_3]⟩)

set_option maxHeartbeats 4000000 in
set_option maxRecDepth 100000 in
theorem tX3_halfAsSign (l : Launch) (D : va_G) (k : Nat → ClassId) (M : mw) (sz : Nat) (q : Nat) (hq : q < 16) : Met l yX3_halfAsSign wsX3_halfAsSign ({ frames := 0, cells := 0, slots := 0, locals := 0 }) (va_Pc [.int (nI q)] (mw_U D vwCl (TY k) M sz)) (va_Qi (fun r M1 => M1 = M ∧ r = nI (sgnn q)) (mw_B D vwCl M sz) (mw_A M sz)) 0 0 (mw_A M sz) := by
  refine mw_met (cc := cX3_halfAsSign) (maxL := 1) (ret := (some .int)) (lv := [(0, .int (nI q))]) (by decide) rfl (Nat.le_of_ble_eq_true rfl) rfl ?_
  intro p e s m below meth c ls hE hr hlocks hin hml hsz hP hS hl
  subst hsz
  have hx := hE.1
  have hb := hE.2.1
  have hA : ∀ q, s.heap.size ≤ q → mw_A M s.heap.size q := fun q h => Or.inr h
  refine lv_iload_n hx hb dX3_halfAsSign_0 rfl (lv_at hl 0 rfl) ?_
  rcases (show q < 10 ∨ q = 10 ∨ q = 11 ∨ q = 12 ∨ q = 13 ∨ q = 14 ∨ q = 15 by omega) with hlo | rfl | rfl | rfl | rfl | rfl | rfl
  · refine lv_tableOut (tgt := 46) hx hb dX3_halfAsSign_1 (Or.inl (by rw [nI_toInt (by omega)]; omega)) (by decide) ?_
    refine lv_bipush (v := nI 63) hx hb dX3_halfAsSign_46 (by decide) ?_
    exact mw_iret (v := nI 63) hE hr hlocks hP hS dX3_halfAsSign_48 (⟨rfl, by unfold sgnn; rw [if_neg (by omega), if_neg (by omega)]⟩)
  · refine lv_tableIn (off := 39) (tgt := 40) hx hb dX3_halfAsSign_1 (by decide +kernel) (by decide +kernel) (by decide +kernel) (by decide) ?_
    refine lv_bipush (v := nI 43) hx hb dX3_halfAsSign_40 (by decide) ?_
    exact mw_iret (v := nI 43) hE hr hlocks hP hS dX3_halfAsSign_42 (⟨rfl, by decide +kernel⟩)
  · refine lv_tableIn (off := 42) (tgt := 43) hx hb dX3_halfAsSign_1 (by decide +kernel) (by decide +kernel) (by decide +kernel) (by decide) ?_
    refine lv_bipush (v := nI 45) hx hb dX3_halfAsSign_43 (by decide) ?_
    exact mw_iret (v := nI 45) hE hr hlocks hP hS dX3_halfAsSign_45 (⟨rfl, by decide +kernel⟩)
  · refine lv_tableIn (off := 39) (tgt := 40) hx hb dX3_halfAsSign_1 (by decide +kernel) (by decide +kernel) (by decide +kernel) (by decide) ?_
    refine lv_bipush (v := nI 43) hx hb dX3_halfAsSign_40 (by decide) ?_
    exact mw_iret (v := nI 43) hE hr hlocks hP hS dX3_halfAsSign_42 (⟨rfl, by decide +kernel⟩)
  · refine lv_tableIn (off := 42) (tgt := 43) hx hb dX3_halfAsSign_1 (by decide +kernel) (by decide +kernel) (by decide +kernel) (by decide) ?_
    refine lv_bipush (v := nI 45) hx hb dX3_halfAsSign_43 (by decide) ?_
    exact mw_iret (v := nI 45) hE hr hlocks hP hS dX3_halfAsSign_45 (⟨rfl, by decide +kernel⟩)
  · refine lv_tableIn (off := 39) (tgt := 40) hx hb dX3_halfAsSign_1 (by decide +kernel) (by decide +kernel) (by decide +kernel) (by decide) ?_
    refine lv_bipush (v := nI 43) hx hb dX3_halfAsSign_40 (by decide) ?_
    exact mw_iret (v := nI 43) hE hr hlocks hP hS dX3_halfAsSign_42 (⟨rfl, by decide +kernel⟩)
  · refine lv_tableIn (off := 39) (tgt := 40) hx hb dX3_halfAsSign_1 (by decide +kernel) (by decide +kernel) (by decide +kernel) (by decide) ?_
    refine lv_bipush (v := nI 43) hx hb dX3_halfAsSign_40 (by decide) ?_
    exact mw_iret (v := nI 43) hE hr hlocks hP hS dX3_halfAsSign_42 (⟨rfl, by decide +kernel⟩)

set_option maxRecDepth 20000 in
theorem mX3_pageAt_f11 : Cond.fieldLink RX3 11 "CodePages" "pages" "[LCodePages$Page;" ∈ wsX3_pageAt := by decide +kernel
set_option maxRecDepth 20000 in
theorem iX3_pageAt_X3 : ∀ w ∈ u_ws RX3 TX3 8, w ∈ wsX3_pageAt := by decide +kernel
set_option maxHeartbeats 4000000 in
set_option maxRecDepth 100000 in
theorem tX3_pageAt (l : Launch) (D : va_G) (k : Nat → ClassId) (M : mw) (sz : Nat) (h : Nat → Nat) (w : Nat → Int32) (n : Nat) (pa : Nat → Nat) (x : Int32) (hn9 : n ≤ 12) (f0 : M (h 0) = some (cp_o h w)) (f1 : M (h 1) = some (cp_q (k 2) 12 n pa)) : Met l yX3_pageAt wsX3_pageAt ({ frames := 0, cells := 0, slots := 0, locals := 0 }) (va_Pc [.ref (h 0), .int x] (mw_U D vwCl (TY k) M sz)) (va_Qq (fun r M1 => M1 = M ∧ ((∃ j : Nat, j < n ∧ x = nI j ∧ r = some (pa j)) ∨ (¬ vp_in x n ∧ r = none))) (mw_B D vwCl M sz) (mw_A M sz)) 0 0 (mw_A M sz) := by
  refine mw_met (cc := cX3_pageAt) (maxL := 2) (ret := (some (.object "CodePages$Page"))) (lv := [(0, .ref (h 0)), (1, .int x)]) (by decide) rfl (Nat.le_of_ble_eq_true rfl) rfl ?_
  intro p e s m below meth c ls hE hr hlocks hin hml hsz hP hS hl
  subst hsz
  have hx := hE.1
  have hb := hE.2.1
  have hA : ∀ q, s.heap.size ≤ q → mw_A M s.heap.size q := fun q h => Or.inr h
  refine lv_iload_n hx hb dX3_pageAt_0 rfl (lv_at hl 1 rfl) ?_
  refine lv_if_lt (tgt := 19) hx hb dX3_pageAt_1 (by decide) (fun c_1 => ?_) (fun c_1 => ?_)
  · refine lv_null hx hb dX3_pageAt_19 ?_
    exact mw_aret (r := none) hE hr hlocks hP hS dX3_pageAt_20 (⟨rfl, Or.inr ⟨fun q => by obtain ⟨j, hj, rfl⟩ := vp_in_of q (by omega); exact absurd c_1 (nI_pos (by omega)), rfl⟩⟩)
  · refine lv_iload_n hx hb dX3_pageAt_4 rfl (lv_at hl 1 rfl) ?_
    refine lv_bipush (v := nI 12) hx hb dX3_pageAt_5 (by decide) ?_
    refine lv_icmp_ge (tgt := 19) hx hb dX3_pageAt_7 (by decide) (fun c_7 => ?_) (fun c_7 => ?_)
    · refine lv_null hx hb dX3_pageAt_19 ?_
      exact mw_aret (r := none) hE hr hlocks hP hS dX3_pageAt_20 (⟨rfl, Or.inr ⟨fun q => by obtain ⟨j, hj, rfl⟩ := vp_in_of q (by omega); exact absurd (nn_le c_7 (by omega) (by omega)) (by omega), rfl⟩⟩)
    · refine lv_aload_n hx hb dX3_pageAt_10 rfl (lv_at hl 0 rfl) ?_
      refine mw_get (v := .ref (h 1)) (ci := 4) (T := TX3) (N := 8) (C := RX3) hE iX3_pageAt_X3 hP f0 rfl 0 (by decide) (hE.2.2.1 _ mX3_pageAt_f11) rfl rfl dX3_pageAt_11 ?_
      refine lv_iload_n hx hb dX3_pageAt_14 rfl (lv_at hl 1 rfl) ?_
      obtain ⟨j, hj, rfl⟩ := vp_in_of ((rw_in (x := x) (n := 12) (by decide)).mpr ⟨c_1, c_7⟩) (by decide)
      refine rw_aald hE hP 2 f1 rfl (by decide) dX3_pageAt_15 (by omega) ?_
      refine lv_goto (tgt := 20) hx hb dX3_pageAt_16 (by decide) ?_
      exact mw_aret (r := (fun p => if p < n then some (pa p) else none) j) hE hr hlocks hP hS dX3_pageAt_20 (⟨rfl, by by_cases hjn : j < n; exact Or.inl ⟨j, hjn, rfl, if_pos hjn⟩; exact Or.inr ⟨fun q => hjn ((in_nI (by omega) (by omega)).mp q), if_neg hjn⟩⟩)

set_option maxRecDepth 20000 in
theorem mX3_orderAt_f17 : Cond.fieldLink RX3 17 "CodePages" "orders" "[LCodePages$Order;" ∈ wsX3_orderAt := by decide +kernel
set_option maxRecDepth 20000 in
theorem iX3_orderAt_X3 : ∀ w ∈ u_ws RX3 TX3 8, w ∈ wsX3_orderAt := by decide +kernel
set_option maxHeartbeats 4000000 in
set_option maxRecDepth 100000 in
theorem tX3_orderAt (l : Launch) (D : va_G) (k : Nat → ClassId) (M : mw) (sz : Nat) (h : Nat → Nat) (w : Nat → Int32) (n : Nat) (pa : Nat → Nat) (x : Int32) (hn9 : n ≤ 12) (f0 : M (h 0) = some (cp_o h w)) (f1 : M (h 2) = some (cp_q (k 3) 12 n pa)) : Met l yX3_orderAt wsX3_orderAt ({ frames := 0, cells := 0, slots := 0, locals := 0 }) (va_Pc [.ref (h 0), .int x] (mw_U D vwCl (TY k) M sz)) (va_Qq (fun r M1 => M1 = M ∧ ((∃ j : Nat, j < n ∧ x = nI j ∧ r = some (pa j)) ∨ (¬ vp_in x n ∧ r = none))) (mw_B D vwCl M sz) (mw_A M sz)) 0 0 (mw_A M sz) := by
  refine mw_met (cc := cX3_orderAt) (maxL := 2) (ret := (some (.object "CodePages$Order"))) (lv := [(0, .ref (h 0)), (1, .int x)]) (by decide) rfl (Nat.le_of_ble_eq_true rfl) rfl ?_
  intro p e s m below meth c ls hE hr hlocks hin hml hsz hP hS hl
  subst hsz
  have hx := hE.1
  have hb := hE.2.1
  have hA : ∀ q, s.heap.size ≤ q → mw_A M s.heap.size q := fun q h => Or.inr h
  refine lv_iload_n hx hb dX3_orderAt_0 rfl (lv_at hl 1 rfl) ?_
  refine lv_if_lt (tgt := 19) hx hb dX3_orderAt_1 (by decide) (fun c_1 => ?_) (fun c_1 => ?_)
  · refine lv_null hx hb dX3_orderAt_19 ?_
    exact mw_aret (r := none) hE hr hlocks hP hS dX3_orderAt_20 (⟨rfl, Or.inr ⟨fun q => by obtain ⟨j, hj, rfl⟩ := vp_in_of q (by omega); exact absurd c_1 (nI_pos (by omega)), rfl⟩⟩)
  · refine lv_iload_n hx hb dX3_orderAt_4 rfl (lv_at hl 1 rfl) ?_
    refine lv_bipush (v := nI 12) hx hb dX3_orderAt_5 (by decide) ?_
    refine lv_icmp_ge (tgt := 19) hx hb dX3_orderAt_7 (by decide) (fun c_7 => ?_) (fun c_7 => ?_)
    · refine lv_null hx hb dX3_orderAt_19 ?_
      exact mw_aret (r := none) hE hr hlocks hP hS dX3_orderAt_20 (⟨rfl, Or.inr ⟨fun q => by obtain ⟨j, hj, rfl⟩ := vp_in_of q (by omega); exact absurd (nn_le c_7 (by omega) (by omega)) (by omega), rfl⟩⟩)
    · refine lv_aload_n hx hb dX3_orderAt_10 rfl (lv_at hl 0 rfl) ?_
      refine mw_get (v := .ref (h 2)) (ci := 4) (T := TX3) (N := 8) (C := RX3) hE iX3_orderAt_X3 hP f0 rfl 1 (by decide) (hE.2.2.1 _ mX3_orderAt_f17) rfl rfl dX3_orderAt_11 ?_
      refine lv_iload_n hx hb dX3_orderAt_14 rfl (lv_at hl 1 rfl) ?_
      obtain ⟨j, hj, rfl⟩ := vp_in_of ((rw_in (x := x) (n := 12) (by decide)).mpr ⟨c_1, c_7⟩) (by decide)
      refine rw_aald hE hP 3 f1 rfl (by decide) dX3_orderAt_15 (by omega) ?_
      refine lv_goto (tgt := 20) hx hb dX3_orderAt_16 (by decide) ?_
      exact mw_aret (r := (fun p => if p < n then some (pa p) else none) j) hE hr hlocks hP hS dX3_orderAt_20 (⟨rfl, by by_cases hjn : j < n; exact Or.inl ⟨j, hjn, rfl, if_pos hjn⟩; exact Or.inr ⟨fun q => hjn ((in_nI (by omega) (by omega)).mp q), if_neg hjn⟩⟩)

set_option maxRecDepth 20000 in
theorem mX3_textAt_f23 : Cond.fieldLink RX3 23 "CodePages" "texts" "[LCodePages$Text;" ∈ wsX3_textAt := by decide +kernel
set_option maxRecDepth 20000 in
theorem iX3_textAt_X3 : ∀ w ∈ u_ws RX3 TX3 8, w ∈ wsX3_textAt := by decide +kernel
set_option maxHeartbeats 4000000 in
set_option maxRecDepth 100000 in
theorem tX3_textAt (l : Launch) (D : va_G) (k : Nat → ClassId) (M : mw) (sz : Nat) (h : Nat → Nat) (w : Nat → Int32) (n : Nat) (pa : Nat → Nat) (x : Int32) (hn9 : n ≤ 40) (f0 : M (h 0) = some (cp_o h w)) (f1 : M (h 3) = some (cp_q (k 4) 40 n pa)) : Met l yX3_textAt wsX3_textAt ({ frames := 0, cells := 0, slots := 0, locals := 0 }) (va_Pc [.ref (h 0), .int x] (mw_U D vwCl (TY k) M sz)) (va_Qq (fun r M1 => M1 = M ∧ ((∃ j : Nat, j < n ∧ x = nI j ∧ r = some (pa j)) ∨ (¬ vp_in x n ∧ r = none))) (mw_B D vwCl M sz) (mw_A M sz)) 0 0 (mw_A M sz) := by
  refine mw_met (cc := cX3_textAt) (maxL := 2) (ret := (some (.object "CodePages$Text"))) (lv := [(0, .ref (h 0)), (1, .int x)]) (by decide) rfl (Nat.le_of_ble_eq_true rfl) rfl ?_
  intro p e s m below meth c ls hE hr hlocks hin hml hsz hP hS hl
  subst hsz
  have hx := hE.1
  have hb := hE.2.1
  have hA : ∀ q, s.heap.size ≤ q → mw_A M s.heap.size q := fun q h => Or.inr h
  refine lv_iload_n hx hb dX3_textAt_0 rfl (lv_at hl 1 rfl) ?_
  refine lv_if_lt (tgt := 19) hx hb dX3_textAt_1 (by decide) (fun c_1 => ?_) (fun c_1 => ?_)
  · refine lv_null hx hb dX3_textAt_19 ?_
    exact mw_aret (r := none) hE hr hlocks hP hS dX3_textAt_20 (⟨rfl, Or.inr ⟨fun q => by obtain ⟨j, hj, rfl⟩ := vp_in_of q (by omega); exact absurd c_1 (nI_pos (by omega)), rfl⟩⟩)
  · refine lv_iload_n hx hb dX3_textAt_4 rfl (lv_at hl 1 rfl) ?_
    refine lv_bipush (v := nI 40) hx hb dX3_textAt_5 (by decide) ?_
    refine lv_icmp_ge (tgt := 19) hx hb dX3_textAt_7 (by decide) (fun c_7 => ?_) (fun c_7 => ?_)
    · refine lv_null hx hb dX3_textAt_19 ?_
      exact mw_aret (r := none) hE hr hlocks hP hS dX3_textAt_20 (⟨rfl, Or.inr ⟨fun q => by obtain ⟨j, hj, rfl⟩ := vp_in_of q (by omega); exact absurd (nn_le c_7 (by omega) (by omega)) (by omega), rfl⟩⟩)
    · refine lv_aload_n hx hb dX3_textAt_10 rfl (lv_at hl 0 rfl) ?_
      refine mw_get (v := .ref (h 3)) (ci := 4) (T := TX3) (N := 8) (C := RX3) hE iX3_textAt_X3 hP f0 rfl 2 (by decide) (hE.2.2.1 _ mX3_textAt_f23) rfl rfl dX3_textAt_11 ?_
      refine lv_iload_n hx hb dX3_textAt_14 rfl (lv_at hl 1 rfl) ?_
      obtain ⟨j, hj, rfl⟩ := vp_in_of ((rw_in (x := x) (n := 40) (by decide)).mpr ⟨c_1, c_7⟩) (by decide)
      refine rw_aald hE hP 4 f1 rfl (by decide) dX3_textAt_15 (by omega) ?_
      refine lv_goto (tgt := 20) hx hb dX3_textAt_16 (by decide) ?_
      exact mw_aret (r := (fun p => if p < n then some (pa p) else none) j) hE hr hlocks hP hS dX3_textAt_20 (⟨rfl, by by_cases hjn : j < n; exact Or.inl ⟨j, hjn, rfl, if_pos hjn⟩; exact Or.inr ⟨fun q => hjn ((in_nI (by omega) (by omega)).mp q), if_neg hjn⟩⟩)

set_option maxRecDepth 20000 in
theorem mX1_codeThatMeans_f9 : Cond.fieldLink RX1 9 "CodePages$Page" "meanings" "[I" ∈ wsX1_codeThatMeans := by decide +kernel
set_option maxRecDepth 20000 in
theorem iX1_codeThatMeans_X1 : ∀ w ∈ u_ws RX1 TX1 2, w ∈ wsX1_codeThatMeans := by decide +kernel
set_option maxHeartbeats 4000000 in
set_option maxRecDepth 100000 in
theorem tX1_codeThatMeans (l : Launch) (D : va_G) (k : Nat → ClassId) (M : mw) (sz : Nat) (a b : Nat) (f : Nat → Int32) (sb u : Int32) (fa : M a = some (.inr (2, [.ref b, .int sb]))) (fb : M b = some (.inl (k 0, 256, .inl f))) : Met l yX1_codeThatMeans wsX1_codeThatMeans ({ frames := 0, cells := 0, slots := 0, locals := 0 }) (va_Pc [.ref a, .int u] (mw_U D vwCl (TY k) M sz)) (va_Qi (fun r M1 => M1 = M ∧ r = pfind f u) (mw_B D vwCl M sz) (mw_A M sz)) 0 0 (mw_A M sz) := by
  refine mw_met (cc := cX1_codeThatMeans) (maxL := 3) (ret := (some .int)) (lv := [(0, .ref a), (1, .int u)]) (by decide) rfl (Nat.le_of_ble_eq_true rfl) rfl ?_
  intro p e s m below meth c ls hE hr hlocks hin hml hsz hP hS hl
  subst hsz
  have hx := hE.1
  have hb := hE.2.1
  have hA : ∀ q, s.heap.size ≤ q → mw_A M s.heap.size q := fun q h => Or.inr h
  obtain ⟨Q, hQ⟩ : ∃ Q : State → Prop, Q = MQ below (va_Qi (fun r M1 => M1 = M ∧ r = pfind f u) (mw_B D vwCl M s.heap.size) (mw_A M s.heap.size)) ([.ref a, .int u] : List Value).toArray s 0 0 (mw_A M s.heap.size) := ⟨_, rfl⟩
  rw [← hQ]
  refine lv_iload_n hx hb dX1_codeThatMeans_0 rfl (lv_at hl 1 rfl) ?_
  refine lv_iconst (v := (-1)) hx hb dX1_codeThatMeans_1 (by decide) ?_
  refine lv_icmp_ne (tgt := 7) hx hb dX1_codeThatMeans_2 (by decide) (fun c_2 => ?_) (fun c_2 => ?_)
  · refine lv_iconst (v := 0) hx hb dX1_codeThatMeans_7 (by decide) ?_
    refine lv_istore_n (lv' := [(2, .int 0), (0, .ref a), (1, .int u)]) hx hb dX1_codeThatMeans_8 rfl hl (by decide) rfl (fun ls hl => ?_)
    have lp_9 : ∀ (fu : Nat) (i : Nat), (i ≤ 256) → (ff f u 0 256 = ff f u i (256 - i)) → 256 - i < fu → ∀ (H : Heap) (locs : List Loc), mw_Q (mw_A M s.heap.size) D vwCl M H → va_S (mw_A M s.heap.size) s.heap H locs → ∀ ls : Array Slot, lv_has ls 3 [(0, .ref a), (1, .int u), (2, .int (nI i))] → W p l e ({ frames := 0, cells := 0, slots := 0, locals := 0 } : Room) s m ([.ref a, .int u] : List Value).toArray below meth c H locs 0 0 Q (F0 m 9 ls []) := by
      intro fu
      induction fu with
      | zero => intro i hi hv hn; exact absurd hn (Nat.not_lt_zero _)
      | succ fu ih_9 =>
        intro i hi hv hn H locs hP hS ls hl
        refine lv_iload_n hx hb dX1_codeThatMeans_9 rfl (lv_at hl 2 rfl) ?_
        refine lv_sipush (v := nI 256) hx hb dX1_codeThatMeans_10 (by decide) ?_
        refine lv_icmp_ge (tgt := 34) hx hb dX1_codeThatMeans_13 (by decide) (fun c_13 => ?_) (fun c_13 => ?_)
        · have k_13 : 256 ≤ i := nn_le (a := 256) (b := i) c_13 (by omega) (by omega)
          refine lv_iconst (v := (-1)) hx hb dX1_codeThatMeans_34 (by decide) ?_
          rw [hQ]
          exact mw_iret (v := (-1)) hE hr hlocks hP hS dX1_codeThatMeans_35 (⟨rfl, by unfold pfind; rw [if_neg c_2, hv, ff_end k_13]⟩)
        · have k_13 : i < 256 := nn_nle (a := 256) (b := i) c_13 (by omega) (by omega)
          refine lv_aload_n hx hb dX1_codeThatMeans_16 rfl (lv_at hl 0 rfl) ?_
          refine mw_get (v := .ref b) (ci := 2) (T := TX1) (N := 2) (C := RX1) hE iX1_codeThatMeans_X1 hP fa rfl 0 (by decide) (hE.2.2.1 _ mX1_codeThatMeans_f9) rfl rfl dX1_codeThatMeans_17 ?_
          refine lv_iload_n hx hb dX1_codeThatMeans_20 rfl (lv_at hl 2 rfl) ?_
          refine rw_iald hE hP 0 fb rfl (by decide) dX1_codeThatMeans_21 (by omega) ?_
          refine lv_iload_n hx hb dX1_codeThatMeans_22 rfl (lv_at hl 1 rfl) ?_
          refine lv_icmp_ne (tgt := 28) hx hb dX1_codeThatMeans_23 (by decide) (fun c_23 => ?_) (fun c_23 => ?_)
          · refine lv_iinc (v := nI (i + 1)) (lv' := [(2, .int (nI (i + 1))), (0, .ref a), (1, .int u)]) hx hb dX1_codeThatMeans_28 hl (k := 2) rfl (nI_1 i) (by decide) rfl (fun ls hl => ?_)
            refine lv_goto (tgt := 9) hx hb dX1_codeThatMeans_31 (by decide) ?_
            exact ih_9 (i + 1) (by omega) (by rw [hv, ff_step k_13, if_neg c_23]) (by omega) H locs hP hS ls (lv_sub hl [1, 2, 0] rfl)
          · refine lv_iload_n hx hb dX1_codeThatMeans_26 rfl (lv_at hl 2 rfl) ?_
            rw [hQ]
            exact mw_iret (v := nI i) hE hr hlocks hP hS dX1_codeThatMeans_27 (⟨rfl, by unfold pfind; rw [if_neg c_2, hv, ff_step k_13, if_pos c_23]⟩)
    exact lp_9 (257) 0 (by omega) (rfl) (by omega) _ _ hP hS ls (lv_sub hl [1, 2, 0] rfl)
  · refine lv_iconst (v := (-1)) hx hb dX1_codeThatMeans_5 (by decide) ?_
    rw [hQ]
    exact mw_iret (v := (-1)) hE hr hlocks hP hS dX1_codeThatMeans_6 (⟨rfl, by unfold pfind; rw [if_pos c_2]⟩)
