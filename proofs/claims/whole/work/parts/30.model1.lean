set_option maxRecDepth 20000 in
theorem mX4_thrown_f34 : Cond.fieldLink RX4 34 "CodePagesModel" "code" "I" ∈ wsX4_thrown := by decide +kernel
set_option maxRecDepth 20000 in
theorem iX4_thrown_X4 : ∀ w ∈ u_ws RX4 TX4 14, w ∈ wsX4_thrown := by decide +kernel
set_option maxHeartbeats 4000000 in
set_option maxRecDepth 100000 in
theorem tX4_thrown (l : Launch) (D : va_G) (k : Nat → ClassId) (M : mw) (sz : Nat) (ad : Nat → Nat) (v : Nat → Int32) (g : Nat → Nat → Int32) (n : Nat → Nat)  (hN : mo_N ad) (hV : mo_V v n) (hn9 : mo_B n) (hM : M = mo_M (k 0) ad v g) : Met l yX4_thrown wsX4_thrown ({ frames := 0, cells := 0, slots := 0, locals := 0 }) (va_Pc [.ref (ad 0)] (mw_U D vwCl (TY k) M sz)) (va_Qi (fun r M1 => M1 = mo_M (k 0) ad v g ∧ r = v 0) (mw_B D vwCl M sz) (mw_A M sz)) 0 0 (mw_A M sz) := by
  refine mw_met (cc := cX4_thrown) (maxL := 1) (ret := (some .int)) (lv := [(0, .ref (ad 0))]) (by decide) rfl (Nat.le_of_ble_eq_true rfl) rfl ?_
  intro p e s m below meth c ls hE hr hlocks hin hml hsz hP hS hl
  subst hsz
  have hx := hE.1
  have hb := hE.2.1
  have hA : ∀ q, s.heap.size ≤ q → mw_A M s.heap.size q := fun q h => Or.inr h
  have hP : mw_Q (mw_A M s.heap.size) D vwCl (mo_M (k 0) ad v g) s.heap := by rw [← hM]; exact hP
  obtain ⟨hb0, hb1, hb2, hb3⟩ := hn9
  refine lv_aload_n hx hb dX4_thrown_0 rfl (lv_at hl 0 rfl) ?_
  refine mo_get (x := .int (v 0)) hE iX4_thrown_X4 hP 0 (by decide) mX4_thrown_f34 rfl rfl dX4_thrown_1 ?_
  exact mw_iret (v := v 0) hE hr hlocks hP hS dX4_thrown_4 (⟨rfl, rfl⟩)

set_option maxRecDepth 20000 in
theorem mX4_isPage_f38 : Cond.fieldLink RX4 38 "CodePagesModel" "pages" "I" ∈ wsX4_isPage := by decide +kernel
set_option maxRecDepth 20000 in
theorem iX4_isPage_X4 : ∀ w ∈ u_ws RX4 TX4 14, w ∈ wsX4_isPage := by decide +kernel
set_option maxHeartbeats 4000000 in
set_option maxRecDepth 100000 in
theorem tX4_isPage (l : Launch) (D : va_G) (k : Nat → ClassId) (M : mw) (sz : Nat) (ad : Nat → Nat) (v : Nat → Int32) (g : Nat → Nat → Int32) (n : Nat → Nat) (x : Int32) (hN : mo_N ad) (hV : mo_V v n) (hn9 : mo_B n) (hM : M = mo_M (k 0) ad v g) : Met l yX4_isPage wsX4_isPage ({ frames := 0, cells := 0, slots := 0, locals := 0 }) (va_Pc [.ref (ad 0), .int x] (mw_U D vwCl (TY k) M sz)) (va_Qi (fun r M1 => M1 = mo_M (k 0) ad v g ∧ (vp_in x (n 0) ∧ r = 1 ∨ ¬ vp_in x (n 0) ∧ r = 0)) (mw_B D vwCl M sz) (mw_A M sz)) 0 0 (mw_A M sz) := by
  refine mw_met (cc := cX4_isPage) (maxL := 2) (ret := (some .boolean)) (lv := [(0, .ref (ad 0)), (1, .int x)]) (by decide) rfl (Nat.le_of_ble_eq_true rfl) rfl ?_
  intro p e s m below meth c ls hE hr hlocks hin hml hsz hP hS hl
  subst hsz
  have hx := hE.1
  have hb := hE.2.1
  have hA : ∀ q, s.heap.size ≤ q → mw_A M s.heap.size q := fun q h => Or.inr h
  have hP : mw_Q (mw_A M s.heap.size) D vwCl (mo_M (k 0) ad v g) s.heap := by rw [← hM]; exact hP
  obtain ⟨hb0, hb1, hb2, hb3⟩ := hn9
  refine lv_iload_n hx hb dX4_isPage_0 rfl (lv_at hl 1 rfl) ?_
  refine lv_if_lt (tgt := 16) hx hb dX4_isPage_1 (by decide) (fun c_1 => ?_) (fun c_1 => ?_)
  · refine lv_iconst (v := 0) hx hb dX4_isPage_16 (by decide) ?_
    exact mw_zret (v := 0) (ty := .boolean) hE hr hlocks hP hS dX4_isPage_17 (rfl) (by refine ⟨rfl, ?_⟩; simp only [rw_in (n := n 0) (by omega)]; simp [c_1])
  · refine lv_iload_n hx hb dX4_isPage_4 rfl (lv_at hl 1 rfl) ?_
    refine lv_aload_n hx hb dX4_isPage_5 rfl (lv_at hl 0 rfl) ?_
    refine mo_get (x := .int (v 3)) hE iX4_isPage_X4 hP 3 (by decide) mX4_isPage_f38 rfl rfl dX4_isPage_6 ?_
    refine rw_i (v := nI (n 0)) hV.1 ?_
    refine lv_icmp_ge (tgt := 16) hx hb dX4_isPage_9 (by decide) (fun c_9 => ?_) (fun c_9 => ?_)
    · refine lv_iconst (v := 0) hx hb dX4_isPage_16 (by decide) ?_
      exact mw_zret (v := 0) (ty := .boolean) hE hr hlocks hP hS dX4_isPage_17 (rfl) (by refine ⟨rfl, ?_⟩; simp only [rw_in (n := n 0) (by omega)]; simp [c_1, c_9])
    · refine lv_iconst (v := 1) hx hb dX4_isPage_12 (by decide) ?_
      refine lv_goto (tgt := 17) hx hb dX4_isPage_13 (by decide) ?_
      exact mw_zret (v := 1) (ty := .boolean) hE hr hlocks hP hS dX4_isPage_17 (rfl) (by refine ⟨rfl, ?_⟩; simp only [rw_in (n := n 0) (by omega)]; simp [c_1, c_9])

set_option maxRecDepth 20000 in
theorem mX4_isOrder_f41 : Cond.fieldLink RX4 41 "CodePagesModel" "orders" "I" ∈ wsX4_isOrder := by decide +kernel
set_option maxRecDepth 20000 in
theorem iX4_isOrder_X4 : ∀ w ∈ u_ws RX4 TX4 14, w ∈ wsX4_isOrder := by decide +kernel
set_option maxHeartbeats 4000000 in
set_option maxRecDepth 100000 in
theorem tX4_isOrder (l : Launch) (D : va_G) (k : Nat → ClassId) (M : mw) (sz : Nat) (ad : Nat → Nat) (v : Nat → Int32) (g : Nat → Nat → Int32) (n : Nat → Nat) (x : Int32) (hN : mo_N ad) (hV : mo_V v n) (hn9 : mo_B n) (hM : M = mo_M (k 0) ad v g) : Met l yX4_isOrder wsX4_isOrder ({ frames := 0, cells := 0, slots := 0, locals := 0 }) (va_Pc [.ref (ad 0), .int x] (mw_U D vwCl (TY k) M sz)) (va_Qi (fun r M1 => M1 = mo_M (k 0) ad v g ∧ (vp_in x (n 1) ∧ r = 1 ∨ ¬ vp_in x (n 1) ∧ r = 0)) (mw_B D vwCl M sz) (mw_A M sz)) 0 0 (mw_A M sz) := by
  refine mw_met (cc := cX4_isOrder) (maxL := 2) (ret := (some .boolean)) (lv := [(0, .ref (ad 0)), (1, .int x)]) (by decide) rfl (Nat.le_of_ble_eq_true rfl) rfl ?_
  intro p e s m below meth c ls hE hr hlocks hin hml hsz hP hS hl
  subst hsz
  have hx := hE.1
  have hb := hE.2.1
  have hA : ∀ q, s.heap.size ≤ q → mw_A M s.heap.size q := fun q h => Or.inr h
  have hP : mw_Q (mw_A M s.heap.size) D vwCl (mo_M (k 0) ad v g) s.heap := by rw [← hM]; exact hP
  obtain ⟨hb0, hb1, hb2, hb3⟩ := hn9
  refine lv_iload_n hx hb dX4_isOrder_0 rfl (lv_at hl 1 rfl) ?_
  refine lv_if_lt (tgt := 16) hx hb dX4_isOrder_1 (by decide) (fun c_1 => ?_) (fun c_1 => ?_)
  · refine lv_iconst (v := 0) hx hb dX4_isOrder_16 (by decide) ?_
    exact mw_zret (v := 0) (ty := .boolean) hE hr hlocks hP hS dX4_isOrder_17 (rfl) (by refine ⟨rfl, ?_⟩; simp only [rw_in (n := n 1) (by omega)]; simp [c_1])
  · refine lv_iload_n hx hb dX4_isOrder_4 rfl (lv_at hl 1 rfl) ?_
    refine lv_aload_n hx hb dX4_isOrder_5 rfl (lv_at hl 0 rfl) ?_
    refine mo_get (x := .int (v 7)) hE iX4_isOrder_X4 hP 7 (by decide) mX4_isOrder_f41 rfl rfl dX4_isOrder_6 ?_
    refine rw_i (v := nI (n 1)) hV.2.1 ?_
    refine lv_icmp_ge (tgt := 16) hx hb dX4_isOrder_9 (by decide) (fun c_9 => ?_) (fun c_9 => ?_)
    · refine lv_iconst (v := 0) hx hb dX4_isOrder_16 (by decide) ?_
      exact mw_zret (v := 0) (ty := .boolean) hE hr hlocks hP hS dX4_isOrder_17 (rfl) (by refine ⟨rfl, ?_⟩; simp only [rw_in (n := n 1) (by omega)]; simp [c_1, c_9])
    · refine lv_iconst (v := 1) hx hb dX4_isOrder_12 (by decide) ?_
      refine lv_goto (tgt := 17) hx hb dX4_isOrder_13 (by decide) ?_
      exact mw_zret (v := 1) (ty := .boolean) hE hr hlocks hP hS dX4_isOrder_17 (rfl) (by refine ⟨rfl, ?_⟩; simp only [rw_in (n := n 1) (by omega)]; simp [c_1, c_9])

set_option maxRecDepth 20000 in
theorem mX4_isText_f44 : Cond.fieldLink RX4 44 "CodePagesModel" "many" "I" ∈ wsX4_isText := by decide +kernel
set_option maxRecDepth 20000 in
theorem iX4_isText_X4 : ∀ w ∈ u_ws RX4 TX4 14, w ∈ wsX4_isText := by decide +kernel
set_option maxHeartbeats 4000000 in
set_option maxRecDepth 100000 in
theorem tX4_isText (l : Launch) (D : va_G) (k : Nat → ClassId) (M : mw) (sz : Nat) (ad : Nat → Nat) (v : Nat → Int32) (g : Nat → Nat → Int32) (n : Nat → Nat) (x : Int32) (hN : mo_N ad) (hV : mo_V v n) (hn9 : mo_B n) (hM : M = mo_M (k 0) ad v g) : Met l yX4_isText wsX4_isText ({ frames := 0, cells := 0, slots := 0, locals := 0 }) (va_Pc [.ref (ad 0), .int x] (mw_U D vwCl (TY k) M sz)) (va_Qi (fun r M1 => M1 = mo_M (k 0) ad v g ∧ (vp_in x (n 2) ∧ r = 1 ∨ ¬ vp_in x (n 2) ∧ r = 0)) (mw_B D vwCl M sz) (mw_A M sz)) 0 0 (mw_A M sz) := by
  refine mw_met (cc := cX4_isText) (maxL := 2) (ret := (some .boolean)) (lv := [(0, .ref (ad 0)), (1, .int x)]) (by decide) rfl (Nat.le_of_ble_eq_true rfl) rfl ?_
  intro p e s m below meth c ls hE hr hlocks hin hml hsz hP hS hl
  subst hsz
  have hx := hE.1
  have hb := hE.2.1
  have hA : ∀ q, s.heap.size ≤ q → mw_A M s.heap.size q := fun q h => Or.inr h
  have hP : mw_Q (mw_A M s.heap.size) D vwCl (mo_M (k 0) ad v g) s.heap := by rw [← hM]; exact hP
  obtain ⟨hb0, hb1, hb2, hb3⟩ := hn9
  refine lv_iload_n hx hb dX4_isText_0 rfl (lv_at hl 1 rfl) ?_
  refine lv_if_lt (tgt := 16) hx hb dX4_isText_1 (by decide) (fun c_1 => ?_) (fun c_1 => ?_)
  · refine lv_iconst (v := 0) hx hb dX4_isText_16 (by decide) ?_
    exact mw_zret (v := 0) (ty := .boolean) hE hr hlocks hP hS dX4_isText_17 (rfl) (by refine ⟨rfl, ?_⟩; simp only [rw_in (n := n 2) (by omega)]; simp [c_1])
  · refine lv_iload_n hx hb dX4_isText_4 rfl (lv_at hl 1 rfl) ?_
    refine lv_aload_n hx hb dX4_isText_5 rfl (lv_at hl 0 rfl) ?_
    refine mo_get (x := .int (v 10)) hE iX4_isText_X4 hP 10 (by decide) mX4_isText_f44 rfl rfl dX4_isText_6 ?_
    refine rw_i (v := nI (n 2)) hV.2.2.1 ?_
    refine lv_icmp_ge (tgt := 16) hx hb dX4_isText_9 (by decide) (fun c_9 => ?_) (fun c_9 => ?_)
    · refine lv_iconst (v := 0) hx hb dX4_isText_16 (by decide) ?_
      exact mw_zret (v := 0) (ty := .boolean) hE hr hlocks hP hS dX4_isText_17 (rfl) (by refine ⟨rfl, ?_⟩; simp only [rw_in (n := n 2) (by omega)]; simp [c_1, c_9])
    · refine lv_iconst (v := 1) hx hb dX4_isText_12 (by decide) ?_
      refine lv_goto (tgt := 17) hx hb dX4_isText_13 (by decide) ?_
      exact mw_zret (v := 1) (ty := .boolean) hE hr hlocks hP hS dX4_isText_17 (rfl) (by refine ⟨rfl, ?_⟩; simp only [rw_in (n := n 2) (by omega)]; simp [c_1, c_9])

set_option maxRecDepth 20000 in
theorem mX4_codeOf_f7 : Cond.fieldLink RX4 7 "CodePagesModel" "means" "[I" ∈ wsX4_codeOf := by decide +kernel
set_option maxRecDepth 20000 in
theorem iX4_codeOf_X4 : ∀ w ∈ u_ws RX4 TX4 14, w ∈ wsX4_codeOf := by decide +kernel
set_option maxHeartbeats 4000000 in
set_option maxRecDepth 100000 in
theorem tX4_codeOf (l : Launch) (D : va_G) (k : Nat → ClassId) (M : mw) (sz : Nat) (ad : Nat → Nat) (v : Nat → Int32) (g : Nat → Nat → Int32) (n : Nat → Nat) (p9 : Nat) (u : Int32) (hN : mo_N ad) (hV : mo_V v n) (hn9 : mo_B n) (hM : M = mo_M (k 0) ad v g) (hp9 : p9 < 12) : Met l yX4_codeOf wsX4_codeOf ({ frames := 0, cells := 0, slots := 0, locals := 0 }) (va_Pc [.ref (ad 0), .int (nI p9), .int u] (mw_U D vwCl (TY k) M sz)) (va_Qi (fun r M1 => M1 = mo_M (k 0) ad v g ∧ r = fl (fun i => g 1 (256 * p9 + i)) u 256) (mw_B D vwCl M sz) (mw_A M sz)) 0 0 (mw_A M sz) := by
  refine mw_met (cc := cX4_codeOf) (maxL := 5) (ret := (some .int)) (lv := [(0, .ref (ad 0)), (1, .int (nI p9)), (2, .int u)]) (by decide) rfl (Nat.le_of_ble_eq_true rfl) rfl ?_
  intro p e s m below meth c ls hE hr hlocks hin hml hsz hP hS hl
  subst hsz
  have hx := hE.1
  have hb := hE.2.1
  have hA : ∀ q, s.heap.size ≤ q → mw_A M s.heap.size q := fun q h => Or.inr h
  obtain ⟨Q, hQ⟩ : ∃ Q : State → Prop, Q = MQ below (va_Qi (fun r M1 => M1 = mo_M (k 0) ad v g ∧ r = fl (fun i => g 1 (256 * p9 + i)) u 256) (mw_B D vwCl M s.heap.size) (mw_A M s.heap.size)) ([.ref (ad 0), .int (nI p9), .int u] : List Value).toArray s 0 0 (mw_A M s.heap.size) := ⟨_, rfl⟩
  rw [← hQ]
  have hP : mw_Q (mw_A M s.heap.size) D vwCl (mo_M (k 0) ad v g) s.heap := by rw [← hM]; exact hP
  obtain ⟨hb0, hb1, hb2, hb3⟩ := hn9
  refine lv_iconst (v := (-1)) hx hb dX4_codeOf_0 (by decide) ?_
  refine lv_istore_n (lv' := [(3, .int (-1)), (0, .ref (ad 0)), (1, .int (nI p9)), (2, .int u)]) hx hb dX4_codeOf_1 rfl hl (by decide) rfl (fun ls hl => ?_)
  refine lv_iconst (v := 0) hx hb dX4_codeOf_2 (by decide) ?_
  refine lv_istore (lv' := [(4, .int 0), (3, .int (-1)), (0, .ref (ad 0)), (1, .int (nI p9)), (2, .int u)]) hx hb dX4_codeOf_3 hl (by decide) rfl (fun ls hl => ?_)
  have lp_5 : ∀ (fu : Nat) (i : Nat) (w : Int32), (i ≤ 256) → (w = fl (fun i => g 1 (256 * p9 + i)) u i) → 256 - i < fu → ∀ (H : Heap) (locs : List Loc), mw_Q (mw_A M s.heap.size) D vwCl (mo_M (k 0) ad v g) H → va_S (mw_A M s.heap.size) s.heap H locs → ∀ ls : Array Slot, lv_has ls 5 [(0, .ref (ad 0)), (1, .int (nI p9)), (2, .int u), (3, .int w), (4, .int (nI i))] → W p l e ({ frames := 0, cells := 0, slots := 0, locals := 0 } : Room) s m ([.ref (ad 0), .int (nI p9), .int u] : List Value).toArray below meth c H locs 0 0 Q (F0 m 5 ls []) := by
    intro fu
    induction fu with
    | zero => intro i w hi hw hn; exact absurd hn (Nat.not_lt_zero _)
    | succ fu ih_5 =>
      intro i w hi hw hn H locs hP hS ls hl
      refine lv_iload hx hb dX4_codeOf_5 (lv_at hl 4 rfl) ?_
      refine lv_sipush (v := nI 256) hx hb dX4_codeOf_7 (by decide) ?_
      refine lv_icmp_ge (tgt := 43) hx hb dX4_codeOf_10 (by decide) (fun c_10 => ?_) (fun c_10 => ?_)
      · have k_10 : 256 ≤ i := nn_le (a := 256) (b := i) c_10 (by omega) (by omega)
        refine lv_iload_n hx hb dX4_codeOf_43 rfl (lv_at hl 3 rfl) ?_
        rw [hQ]
        exact mw_iret (v := w) hE hr hlocks hP hS dX4_codeOf_44 (⟨rfl, by rw [hw, show i = 256 by omega]⟩)
      · have k_10 : i < 256 := nn_nle (a := 256) (b := i) c_10 (by omega) (by omega)
        refine lv_aload_n hx hb dX4_codeOf_13 rfl (lv_at hl 0 rfl) ?_
        refine mo_get (x := .ref (ad 1)) hE iX4_codeOf_X4 hP 1 (by decide) mX4_codeOf_f7 rfl rfl dX4_codeOf_14 ?_
        refine lv_sipush (v := nI 256) hx hb dX4_codeOf_17 (by decide) ?_
        refine lv_iload_n hx hb dX4_codeOf_20 rfl (lv_at hl 1 rfl) ?_
        refine lv_imul hx hb dX4_codeOf_21 ?_
        refine rw_i (v := nI (256 * p9)) (pk_mul _ _) ?_
        refine lv_iload hx hb dX4_codeOf_22 (lv_at hl 4 rfl) ?_
        refine lv_iadd hx hb dX4_codeOf_24 ?_
        refine rw_i (v := nI ((256 * p9) + i)) (nI_add _ _) ?_
        refine mo_ld (n := 3072) hE hN hP 0 1 rfl (by decide) rfl (by decide) dX4_codeOf_25 (by omega) ?_
        refine lv_iload_n hx hb dX4_codeOf_26 rfl (lv_at hl 2 rfl) ?_
        refine lv_icmp_ne (tgt := 35) hx hb dX4_codeOf_27 (by decide) (fun c_27 => ?_) (fun c_27 => ?_)
        · refine lv_iload_n hx hb dX4_codeOf_35 rfl (lv_at hl 3 rfl) ?_
          refine lv_istore_n (lv' := [(3, .int w), (0, .ref (ad 0)), (1, .int (nI p9)), (2, .int u), (4, .int (nI i))]) hx hb dX4_codeOf_36 rfl hl (by decide) rfl (fun ls hl => ?_)
          refine lv_iinc (v := nI (i + 1)) (lv' := [(4, .int (nI (i + 1))), (3, .int w), (0, .ref (ad 0)), (1, .int (nI p9)), (2, .int u)]) hx hb dX4_codeOf_37 hl (k := 4) rfl (nI_1 i) (by decide) rfl (fun ls hl => ?_)
          refine lv_goto (tgt := 5) hx hb dX4_codeOf_40 (by decide) ?_
          exact ih_5 (i + 1) w (by omega) (by rw [fl, if_neg c_27]; exact hw) (by omega) H locs hP hS ls (lv_sub hl [2, 3, 4, 1, 0] rfl)
        · refine lv_iload hx hb dX4_codeOf_30 (lv_at hl 4 rfl) ?_
          refine lv_goto (tgt := 36) hx hb dX4_codeOf_32 (by decide) ?_
          refine lv_istore_n (lv' := [(3, .int (nI i)), (0, .ref (ad 0)), (1, .int (nI p9)), (2, .int u), (4, .int (nI i))]) hx hb dX4_codeOf_36 rfl hl (by decide) rfl (fun ls hl => ?_)
          refine lv_iinc (v := nI (i + 1)) (lv' := [(4, .int (nI (i + 1))), (3, .int (nI i)), (0, .ref (ad 0)), (1, .int (nI p9)), (2, .int u)]) hx hb dX4_codeOf_37 hl (k := 4) rfl (nI_1 i) (by decide) rfl (fun ls hl => ?_)
          refine lv_goto (tgt := 5) hx hb dX4_codeOf_40 (by decide) ?_
          exact ih_5 (i + 1) (nI i) (by omega) (by rw [fl, if_pos c_27]) (by omega) H locs hP hS ls (lv_sub hl [2, 3, 4, 1, 0] rfl)
  exact lp_5 (257) 0 (-1) (by omega) (rfl) (by omega) _ _ hP hS ls (lv_sub hl [2, 3, 4, 1, 0] rfl)

set_option maxRecDepth 20000 in
theorem mX4_set_f34 : Cond.fieldLink RX4 34 "CodePagesModel" "code" "I" ∈ wsX4_set := by decide +kernel
set_option maxRecDepth 20000 in
theorem mX4_set_f7 : Cond.fieldLink RX4 7 "CodePagesModel" "means" "[I" ∈ wsX4_set := by decide +kernel
set_option maxRecDepth 20000 in
theorem mX4_set_k54 : Cond.constant RX4 54 (65535) ∈ wsX4_set := by decide +kernel
set_option maxRecDepth 20000 in
theorem iX4_set_X4 : ∀ w ∈ u_ws RX4 TX4 14, w ∈ wsX4_set := by decide +kernel
set_option maxHeartbeats 4000000 in
set_option maxRecDepth 100000 in
theorem tX4_set (l : Launch) (D : va_G) (k : Nat → ClassId) (M : mw) (sz : Nat) (ad : Nat → Nat) (v : Nat → Int32) (g : Nat → Nat → Int32) (n : Nat → Nat) (x y u : Int32) (hN : mo_N ad) (hV : mo_V v n) (hn9 : mo_B n) (hM : M = mo_M (k 0) ad v g) : Met l yX4_set wsX4_set ({ frames := 1, cells := 0, slots := 0, locals := 24 }) (va_Pc [.ref (ad 0), .int x, .int y, .int u] (mw_U D vwCl (TY k) M sz)) (va_Qi (fun r M1 => ∃ v1 g1, M1 = mo_M (k 0) ad v1 g1 ∧ mo_V v1 n ∧ R_set n g x y u r g1) (mw_B D vwCl M sz) (mw_A M sz)) 0 0 (mw_A M sz) := by
  refine mw_met (cc := cX4_set) (maxL := 5) (ret := (some .int)) (lv := [(0, .ref (ad 0)), (1, .int x), (2, .int y), (3, .int u)]) (by decide) rfl (Nat.le_of_ble_eq_true rfl) rfl ?_
  intro p e s m below meth c ls hE hr hlocks hin hml hsz hP hS hl
  subst hsz
  have hx := hE.1
  have hb := hE.2.1
  have hA : ∀ q, s.heap.size ≤ q → mw_A M s.heap.size q := fun q h => Or.inr h
  have hP : mw_Q (mw_A M s.heap.size) D vwCl (mo_M (k 0) ad v g) s.heap := by rw [← hM]; exact hP
  obtain ⟨hb0, hb1, hb2, hb3⟩ := hn9
  refine lv_aload_n hx hb dX4_set_0 rfl (lv_at hl 0 rfl) ?_
  refine lv_iconst (v := 0) hx hb dX4_set_1 (by decide) ?_
  refine mo_put hE iX4_set_X4 hP hS 0 (by decide) mX4_set_f34 rfl rfl (by decide +kernel) rfl dX4_set_2 (fun H locs hP hS => ?_)
  refine lv_aload_n hx hb dX4_set_5 rfl (lv_at hl 0 rfl) ?_
  refine lv_iload_n hx hb dX4_set_6 rfl (lv_at hl 1 rfl) ?_
  refine mw_calli hP hS hA (va_runV (As := [.int x]) (rest := []) ⟨hx, hb, hml, hE.2.2.2.1, hE.2.2.1⟩ (tX4_isPage l D k _ _ ad (va_up v 0 0) g n x hN hV ⟨hb0, hb1, hb2, hb3⟩ rfl) (cwV 1 hE.2.2.1 gX4_set_X4_isPage rfl rfl rfl (by decide +kernel) ⟨(Nat.le_of_ble_eq_true rfl), (Nat.le_of_ble_eq_true rfl)⟩) (mw_preV hE hP (ci := 5) rfl rfl mo_o [.int x]) rfl rfl hl.1 rfl (lv_room (Nat.le_of_ble_eq_true rfl)) dX4_set_7 ⟨(Nat.le_of_ble_eq_true rfl), (Nat.le_of_ble_eq_true rfl)⟩) (fun r_1 M1 H locs hw hP hS => ?_)
  obtain ⟨rfl, hw⟩ := hw
  rcases hw with ⟨hq_2, rfl⟩ | ⟨hq_2, rfl⟩
  · obtain ⟨pp, hpp, rfl⟩ := vp_in_of hq_2 (by omega)
    refine lv_if_ne (tgt := 16) hx hb dX4_set_10 (by decide) (fun _ => ?_) (fun c9 => absurd c9 (by decide))
    refine lv_iload_n hx hb dX4_set_16 rfl (lv_at hl 2 rfl) ?_
    refine mw_calli hP hS hA (va_runS (As := [.int y]) (rest := []) ⟨hx, hb, hml, hE.2.2.2.1, hE.2.2.1⟩ (tX4_isCode l D k _ _ y) (va_cwS 1 hE.2.2.1 gX4_set_X4_isCode rfl rfl rfl (by decide +kernel) ⟨(Nat.le_of_ble_eq_true rfl), (Nat.le_of_ble_eq_true rfl)⟩) (mw_preS hE hP [.int y]) rfl rfl hl.1 rfl (lv_room (Nat.le_of_ble_eq_true rfl)) dX4_set_17 ⟨(Nat.le_of_ble_eq_true rfl), (Nat.le_of_ble_eq_true rfl)⟩) (fun r_4 M1 H locs hw hP hS => ?_)
    obtain ⟨rfl, hw⟩ := hw
    rcases hw with ⟨hq_5, rfl⟩ | ⟨hq_5, rfl⟩
    · obtain ⟨j, hj, rfl⟩ := vp_in_of hq_5 (by omega)
      refine lv_if_eq (tgt := 34) hx hb dX4_set_20 (by decide) (fun c9 => absurd c9 (by decide)) (fun _ => ?_)
      refine lv_iload_n hx hb dX4_set_23 rfl (lv_at hl 3 rfl) ?_
      refine lv_iconst (v := (-1)) hx hb dX4_set_24 (by decide) ?_
      refine lv_icmp_lt (tgt := 34) hx hb dX4_set_25 (by decide) (fun c_25 => ?_) (fun c_25 => ?_)
      · refine lv_bipush (v := (-4)) hx hb dX4_set_34 (by decide) ?_
        exact mw_iret (v := (-4)) hE hr hlocks hP hS dX4_set_36 (⟨va_up v 0 0, g, rfl, hV, Or.inr (Or.inl ⟨vp_in_nI hpp (by omega), Or.inr (fun q => ((okm_iff _).mp q).1 c_25), rfl, rfl⟩)⟩)
      · refine lv_iload_n hx hb dX4_set_28 rfl (lv_at hl 3 rfl) ?_
        refine lv_ldc (v := nI 65535) hx hb hE.2.2.2.1 (hE.2.2.1 _ mX4_set_k54) dX4_set_29 ?_
        refine lv_icmp_le (tgt := 37) hx hb dX4_set_31 (by decide) (fun c_31 => ?_) (fun c_31 => ?_)
        · refine lv_iload_n hx hb dX4_set_37 rfl (lv_at hl 3 rfl) ?_
          refine lv_iconst (v := (-1)) hx hb dX4_set_38 (by decide) ?_
          refine lv_icmp_ne (tgt := 46) hx hb dX4_set_39 (by decide) (fun c_39 => ?_) (fun c_39 => ?_)
          · refine lv_aload_n hx hb dX4_set_46 rfl (lv_at hl 0 rfl) ?_
            refine lv_iload_n hx hb dX4_set_47 rfl (lv_at hl 1 rfl) ?_
            refine lv_iload_n hx hb dX4_set_48 rfl (lv_at hl 3 rfl) ?_
            refine mw_calli hP hS hA (va_runV (As := [.int (nI pp), .int u]) (rest := []) ⟨hx, hb, hml, hE.2.2.2.1, hE.2.2.1⟩ (tX4_codeOf l D k _ _ ad (va_up v 0 0) g n pp u hN hV ⟨hb0, hb1, hb2, hb3⟩ rfl (by omega)) (cwV 2 hE.2.2.1 gX4_set_X4_codeOf rfl rfl rfl (by decide +kernel) ⟨(Nat.le_of_ble_eq_true rfl), (Nat.le_of_ble_eq_true rfl)⟩) (mw_preV hE hP (ci := 5) rfl rfl mo_o [.int (nI pp), .int u]) rfl rfl hl.1 rfl (lv_room (Nat.le_of_ble_eq_true rfl)) dX4_set_49 ⟨(Nat.le_of_ble_eq_true rfl), (Nat.le_of_ble_eq_true rfl)⟩) (fun r_10 M1 H locs hw hP hS => ?_)
            obtain ⟨rfl, er_10⟩ := hw
            refine lv_istore (lv' := [(4, .int r_10), (0, .ref (ad 0)), (1, .int (nI pp)), (2, .int (nI j)), (3, .int u)]) hx hb dX4_set_52 hl (by decide) rfl (fun ls hl => ?_)
            refine lv_iload hx hb dX4_set_54 (lv_at hl 0 rfl) ?_
            refine lv_iconst (v := (-1)) hx hb dX4_set_56 (by decide) ?_
            refine lv_icmp_eq (tgt := 68) hx hb dX4_set_57 (by decide) (fun c_57 => ?_) (fun c_57 => ?_)
            · refine lv_aload_n hx hb dX4_set_68 rfl (lv_at hl 1 rfl) ?_
              refine mo_get (x := .ref (ad 1)) hE iX4_set_X4 hP 1 (by decide) mX4_set_f7 rfl rfl dX4_set_69 ?_
              refine lv_sipush (v := nI 256) hx hb dX4_set_72 (by decide) ?_
              refine lv_iload_n hx hb dX4_set_75 rfl (lv_at hl 2 rfl) ?_
              refine lv_imul hx hb dX4_set_76 ?_
              refine rw_i (v := nI (256 * pp)) (pk_mul _ _) ?_
              refine lv_iload_n hx hb dX4_set_77 rfl (lv_at hl 3 rfl) ?_
              refine lv_iadd hx hb dX4_set_78 ?_
              refine rw_i (v := nI ((256 * pp) + j)) (nI_add _ _) ?_
              refine lv_iload_n hx hb dX4_set_79 rfl (lv_at hl 4 rfl) ?_
              refine mo_st (n := 3072) hE hN hP hS 0 1 rfl (by decide) rfl (by decide) dX4_set_80 (by omega) (fun H locs hP hS => ?_)
              refine lv_iconst (v := 1) hx hb dX4_set_81 (by decide) ?_
              exact mw_iret (v := 1) hE hr hlocks hP hS dX4_set_82 (⟨va_up v 0 0, va_up g 1 (upd (g 1) ((256 * pp) + j) u), rfl, hV, Or.inr (Or.inr ⟨pp, j, hpp, hj, rfl, rfl, (okm_iff _).mpr ⟨c_25, Int32.not_lt.mpr c_31⟩, Or.inr ⟨rfl, Or.inl (by rw [(show mf g pp u = r_10 by unfold mf; rw [if_neg c_39, er_10])]; exact c_57), rfl⟩⟩)⟩)
            · refine lv_iload hx hb dX4_set_60 (lv_at hl 0 rfl) ?_
              refine lv_iload_n hx hb dX4_set_62 rfl (lv_at hl 3 rfl) ?_
              refine lv_icmp_eq (tgt := 68) hx hb dX4_set_63 (by decide) (fun c_63 => ?_) (fun c_63 => ?_)
              · refine lv_aload_n hx hb dX4_set_68 rfl (lv_at hl 1 rfl) ?_
                refine mo_get (x := .ref (ad 1)) hE iX4_set_X4 hP 1 (by decide) mX4_set_f7 rfl rfl dX4_set_69 ?_
                refine lv_sipush (v := nI 256) hx hb dX4_set_72 (by decide) ?_
                refine lv_iload_n hx hb dX4_set_75 rfl (lv_at hl 2 rfl) ?_
                refine lv_imul hx hb dX4_set_76 ?_
                refine rw_i (v := nI (256 * pp)) (pk_mul _ _) ?_
                refine lv_iload_n hx hb dX4_set_77 rfl (lv_at hl 3 rfl) ?_
                refine lv_iadd hx hb dX4_set_78 ?_
                refine rw_i (v := nI ((256 * pp) + j)) (nI_add _ _) ?_
                refine lv_iload_n hx hb dX4_set_79 rfl (lv_at hl 4 rfl) ?_
                refine mo_st (n := 3072) hE hN hP hS 0 1 rfl (by decide) rfl (by decide) dX4_set_80 (by omega) (fun H locs hP hS => ?_)
                refine lv_iconst (v := 1) hx hb dX4_set_81 (by decide) ?_
                exact mw_iret (v := 1) hE hr hlocks hP hS dX4_set_82 (⟨va_up v 0 0, va_up g 1 (upd (g 1) ((256 * pp) + j) u), rfl, hV, Or.inr (Or.inr ⟨pp, j, hpp, hj, rfl, rfl, (okm_iff _).mpr ⟨c_25, Int32.not_lt.mpr c_31⟩, Or.inr ⟨rfl, Or.inr (by rw [(show mf g pp u = r_10 by unfold mf; rw [if_neg c_39, er_10])]; exact c_63), rfl⟩⟩)⟩)
              · refine lv_iconst (v := 0) hx hb dX4_set_66 (by decide) ?_
                exact mw_iret (v := 0) hE hr hlocks hP hS dX4_set_67 (⟨va_up v 0 0, g, rfl, hV, Or.inr (Or.inr ⟨pp, j, hpp, hj, rfl, rfl, (okm_iff _).mpr ⟨c_25, Int32.not_lt.mpr c_31⟩, Or.inl ⟨rfl, rfl, by rw [(show mf g pp u = r_10 by unfold mf; rw [if_neg c_39, er_10])]; exact c_57, by rw [(show mf g pp u = r_10 by unfold mf; rw [if_neg c_39, er_10])]; exact c_63⟩⟩)⟩)
          · refine lv_iconst (v := (-1)) hx hb dX4_set_42 (by decide) ?_
            refine lv_goto (tgt := 52) hx hb dX4_set_43 (by decide) ?_
            refine lv_istore (lv' := [(4, .int (-1)), (0, .ref (ad 0)), (1, .int (nI pp)), (2, .int (nI j)), (3, .int u)]) hx hb dX4_set_52 hl (by decide) rfl (fun ls hl => ?_)
            refine lv_iload hx hb dX4_set_54 (lv_at hl 0 rfl) ?_
            refine lv_iconst (v := (-1)) hx hb dX4_set_56 (by decide) ?_
            refine lv_icmp_eq (tgt := 68) hx hb dX4_set_57 (by decide) (fun _ => ?_) (fun c9 => absurd (by decide) c9)
            refine lv_aload_n hx hb dX4_set_68 rfl (lv_at hl 1 rfl) ?_
            refine mo_get (x := .ref (ad 1)) hE iX4_set_X4 hP 1 (by decide) mX4_set_f7 rfl rfl dX4_set_69 ?_
            refine lv_sipush (v := nI 256) hx hb dX4_set_72 (by decide) ?_
            refine lv_iload_n hx hb dX4_set_75 rfl (lv_at hl 2 rfl) ?_
            refine lv_imul hx hb dX4_set_76 ?_
            refine rw_i (v := nI (256 * pp)) (pk_mul _ _) ?_
            refine lv_iload_n hx hb dX4_set_77 rfl (lv_at hl 3 rfl) ?_
            refine lv_iadd hx hb dX4_set_78 ?_
            refine rw_i (v := nI ((256 * pp) + j)) (nI_add _ _) ?_
            refine lv_iload_n hx hb dX4_set_79 rfl (lv_at hl 4 rfl) ?_
            refine mo_st (n := 3072) hE hN hP hS 0 1 rfl (by decide) rfl (by decide) dX4_set_80 (by omega) (fun H locs hP hS => ?_)
            refine lv_iconst (v := 1) hx hb dX4_set_81 (by decide) ?_
            exact mw_iret (v := 1) hE hr hlocks hP hS dX4_set_82 (⟨va_up v 0 0, va_up g 1 (upd (g 1) ((256 * pp) + j) u), rfl, hV, Or.inr (Or.inr ⟨pp, j, hpp, hj, rfl, rfl, (okm_iff _).mpr ⟨c_25, Int32.not_lt.mpr c_31⟩, Or.inr ⟨rfl, Or.inl (by rw [(show mf g pp u = -1 by unfold mf; rw [if_pos c_39])]), rfl⟩⟩)⟩)
        · refine lv_bipush (v := (-4)) hx hb dX4_set_34 (by decide) ?_
          exact mw_iret (v := (-4)) hE hr hlocks hP hS dX4_set_36 (⟨va_up v 0 0, g, rfl, hV, Or.inr (Or.inl ⟨vp_in_nI hpp (by omega), Or.inr (fun q => ((okm_iff _).mp q).2 (Int32.not_le.mp c_31)), rfl, rfl⟩)⟩)
    · refine lv_if_eq (tgt := 34) hx hb dX4_set_20 (by decide) (fun _ => ?_) (fun c9 => absurd (by decide) c9)
      refine lv_bipush (v := (-4)) hx hb dX4_set_34 (by decide) ?_
      exact mw_iret (v := (-4)) hE hr hlocks hP hS dX4_set_36 (⟨va_up v 0 0, g, rfl, hV, Or.inr (Or.inl ⟨vp_in_nI hpp (by omega), Or.inl hq_5, rfl, rfl⟩)⟩)
  · refine lv_if_ne (tgt := 16) hx hb dX4_set_10 (by decide) (fun c9 => absurd (by decide) c9) (fun _ => ?_)
    refine lv_bipush (v := (-2)) hx hb dX4_set_13 (by decide) ?_
    exact mw_iret (v := (-2)) hE hr hlocks hP hS dX4_set_15 (⟨va_up v 0 0, g, rfl, hV, Or.inl ⟨hq_2, rfl, rfl⟩⟩)
