set_option maxRecDepth 20000 in
theorem mX4_cls_f34 : Cond.fieldLink RX4 34 "CodePagesModel" "code" "I" ∈ wsX4_cls := by decide +kernel
set_option maxRecDepth 20000 in
theorem iX4_cls_X4 : ∀ w ∈ u_ws RX4 TX4 14, w ∈ wsX4_cls := by decide +kernel
set_option maxHeartbeats 4000000 in
set_option maxRecDepth 100000 in
theorem tX4_cls (l : Launch) (D : va_G) (k : Nat → ClassId) (M : mw) (sz : Nat) (ad : Nat → Nat) (v : Nat → Int32) (g : Nat → Nat → Int32) (n : Nat → Nat) (x y : Int32) (hN : mo_N ad) (hV : mo_V v n) (hn9 : mo_B n) (hM : M = mo_M (k 0) ad v g) : Met l yX4_cls wsX4_cls ({ frames := 0, cells := 0, slots := 0, locals := 0 }) (va_Pc [.ref (ad 0), .int x, .int y] (mw_U D vwCl (TY k) M sz)) (va_Qi (fun r M1 => ∃ v1, M1 = mo_M (k 0) ad v1 g ∧ mo_V v1 n ∧ R_cls x y r) (mw_B D vwCl M sz) (mw_A M sz)) 0 0 (mw_A M sz) := by
  refine mw_met (cc := cX4_cls) (maxL := 5) (ret := (some .boolean)) (lv := [(0, .ref (ad 0)), (1, .int x), (2, .int y)]) (by decide) rfl (Nat.le_of_ble_eq_true rfl) rfl ?_
  intro p e s m below meth c ls hE hr hlocks hin hml hsz hP hS hl
  subst hsz
  have hx := hE.1
  have hb := hE.2.1
  have hA : ∀ q, s.heap.size ≤ q → mw_A M s.heap.size q := fun q h => Or.inr h
  have hP : mw_Q (mw_A M s.heap.size) D vwCl (mo_M (k 0) ad v g) s.heap := by rw [← hM]; exact hP
  obtain ⟨hb0, hb1, hb2, hb3⟩ := hn9
  refine lv_aload_n hx hb dX4_cls_0 rfl (lv_at hl 0 rfl) ?_
  refine lv_iconst (v := 0) hx hb dX4_cls_1 (by decide) ?_
  refine mo_put hE iX4_cls_X4 hP hS 0 (by decide) mX4_cls_f34 rfl rfl (by decide +kernel) rfl dX4_cls_2 (fun H locs hP hS => ?_)
  refine lv_iload_n hx hb dX4_cls_5 rfl (lv_at hl 1 rfl) ?_
  refine lv_bipush (v := nI 65) hx hb dX4_cls_6 (by decide) ?_
  refine lv_icmp_lt (tgt := 21) hx hb dX4_cls_8 (by decide) (fun c_8 => ?_) (fun c_8 => ?_)
  · refine lv_iconst (v := 0) hx hb dX4_cls_21 (by decide) ?_
    refine lv_istore_n (lv' := [(3, .int 0), (0, .ref (ad 0)), (1, .int x), (2, .int y)]) hx hb dX4_cls_22 rfl hl (by decide) rfl (fun ls hl => ?_)
    refine lv_iload_n hx hb dX4_cls_23 rfl (lv_at hl 2 rfl) ?_
    refine lv_bipush (v := nI 97) hx hb dX4_cls_24 (by decide) ?_
    refine lv_icmp_lt (tgt := 39) hx hb dX4_cls_26 (by decide) (fun c_26 => ?_) (fun c_26 => ?_)
    · refine lv_iconst (v := 0) hx hb dX4_cls_39 (by decide) ?_
      refine lv_istore (lv' := [(4, .int 0), (3, .int 0), (0, .ref (ad 0)), (1, .int x), (2, .int y)]) hx hb dX4_cls_40 hl (by decide) rfl (fun ls hl => ?_)
      refine lv_iload_n hx hb dX4_cls_42 rfl (lv_at hl 4 rfl) ?_
      rcases sw_cases y 6 (by decide) with hw_3 | ⟨jw_3, hjw_3, ew_3⟩
      · refine lv_tableOut (tgt := 152) hx hb dX4_cls_43 (sw_out (by decide) hw_3) (by decide) ?_
        refine lv_iconst (v := 0) hx hb dX4_cls_152 (by decide) ?_
        exact mw_zret (v := 0) (ty := .boolean) hE hr hlocks hP hS dX4_cls_153 (rfl) (⟨_, rfl, hV, Or.inl ⟨hw_3, rfl⟩⟩)
      · rcases (show jw_3 = 0 ∨ jw_3 = 1 ∨ jw_3 = 2 ∨ jw_3 = 3 ∨ jw_3 = 4 ∨ jw_3 = 5 by omega) with rfl | rfl | rfl | rfl | rfl | rfl
        · subst ew_3
          refine lv_tableIn (off := (37)) (tgt := 80) hx hb dX4_cls_43 (by decide +kernel) (by decide +kernel) (by decide +kernel) (by decide) ?_
          refine lv_iload_n hx hb dX4_cls_80 rfl (lv_at hl 3 rfl) ?_
          refine lv_bipush (v := nI 48) hx hb dX4_cls_81 (by decide) ?_
          refine lv_icmp_lt (tgt := 96) hx hb dX4_cls_83 (by decide) (fun c_83 => ?_) (fun c_83 => ?_)
          · refine lv_iconst (v := 0) hx hb dX4_cls_96 (by decide) ?_
            exact mw_zret (v := 0) (ty := .boolean) hE hr hlocks hP hS dX4_cls_97 (rfl) (⟨_, rfl, hV, Or.inr ⟨0, by decide, rfl, by simp [clsf, bz, c_8, c_26, c_83]⟩⟩)
          · refine lv_iload_n hx hb dX4_cls_86 rfl (lv_at hl 3 rfl) ?_
            refine lv_bipush (v := nI 57) hx hb dX4_cls_87 (by decide) ?_
            refine lv_icmp_gt (tgt := 96) hx hb dX4_cls_89 (by decide) (fun c_89 => ?_) (fun c_89 => ?_)
            · refine lv_iconst (v := 0) hx hb dX4_cls_96 (by decide) ?_
              exact mw_zret (v := 0) (ty := .boolean) hE hr hlocks hP hS dX4_cls_97 (rfl) (⟨_, rfl, hV, Or.inr ⟨0, by decide, rfl, by simp [clsf, bz, c_8, c_26, c_83, c_89]⟩⟩)
            · refine lv_iconst (v := 1) hx hb dX4_cls_92 (by decide) ?_
              refine lv_goto (tgt := 97) hx hb dX4_cls_93 (by decide) ?_
              exact mw_zret (v := 1) (ty := .boolean) hE hr hlocks hP hS dX4_cls_97 (rfl) (⟨_, rfl, hV, Or.inr ⟨0, by decide, rfl, by simp [clsf, bz, c_8, c_26, c_83, c_89]⟩⟩)
        · subst ew_3
          refine lv_tableIn (off := (55)) (tgt := 98) hx hb dX4_cls_43 (by decide +kernel) (by decide +kernel) (by decide +kernel) (by decide) ?_
          refine lv_iload_n hx hb dX4_cls_98 rfl (lv_at hl 1 rfl) ?_
          refine lv_if_ne (tgt := 107) hx hb dX4_cls_99 (by decide) (fun c9 => absurd (by decide) c9) (fun _ => ?_)
          refine lv_iload hx hb dX4_cls_102 (lv_at hl 0 rfl) ?_
          refine lv_if_eq (tgt := 111) hx hb dX4_cls_104 (by decide) (fun _ => ?_) (fun c9 => absurd (by decide) c9)
          refine lv_iconst (v := 0) hx hb dX4_cls_111 (by decide) ?_
          exact mw_zret (v := 0) (ty := .boolean) hE hr hlocks hP hS dX4_cls_112 (rfl) (⟨_, rfl, hV, Or.inr ⟨1, by decide, rfl, by simp [clsf, bz, c_8, c_26]⟩⟩)
        · subst ew_3
          refine lv_tableIn (off := (70)) (tgt := 113) hx hb dX4_cls_43 (by decide +kernel) (by decide +kernel) (by decide +kernel) (by decide) ?_
          refine lv_iload_n hx hb dX4_cls_113 rfl (lv_at hl 1 rfl) ?_
          exact mw_zret (v := 0) (ty := .boolean) hE hr hlocks hP hS dX4_cls_114 (rfl) (⟨_, rfl, hV, Or.inr ⟨2, by decide, rfl, by simp [clsf, bz, c_8, c_26]⟩⟩)
        · subst ew_3
          refine lv_tableIn (off := (72)) (tgt := 115) hx hb dX4_cls_43 (by decide +kernel) (by decide +kernel) (by decide +kernel) (by decide) ?_
          refine lv_iload hx hb dX4_cls_115 (lv_at hl 0 rfl) ?_
          exact mw_zret (v := 0) (ty := .boolean) hE hr hlocks hP hS dX4_cls_117 (rfl) (⟨_, rfl, hV, Or.inr ⟨3, by decide, rfl, by simp [clsf, bz, c_8, c_26]⟩⟩)
        · subst ew_3
          refine lv_tableIn (off := (75)) (tgt := 118) hx hb dX4_cls_43 (by decide +kernel) (by decide +kernel) (by decide +kernel) (by decide) ?_
          refine lv_iload_n hx hb dX4_cls_118 rfl (lv_at hl 3 rfl) ?_
          refine lv_bipush (v := nI 32) hx hb dX4_cls_119 (by decide) ?_
          refine lv_icmp_ne (tgt := 128) hx hb dX4_cls_121 (by decide) (fun c_121 => ?_) (fun c_121 => ?_)
          · refine lv_iconst (v := 0) hx hb dX4_cls_128 (by decide) ?_
            exact mw_zret (v := 0) (ty := .boolean) hE hr hlocks hP hS dX4_cls_129 (rfl) (⟨_, rfl, hV, Or.inr ⟨4, by decide, rfl, by simp [clsf, bz, c_8, c_26, c_121]⟩⟩)
          · refine lv_iconst (v := 1) hx hb dX4_cls_124 (by decide) ?_
            refine lv_goto (tgt := 129) hx hb dX4_cls_125 (by decide) ?_
            exact mw_zret (v := 1) (ty := .boolean) hE hr hlocks hP hS dX4_cls_129 (rfl) (⟨_, rfl, hV, Or.inr ⟨4, by decide, rfl, by simp [clsf, bz, c_8, c_26, c_121]⟩⟩)
        · subst ew_3
          refine lv_tableIn (off := (87)) (tgt := 130) hx hb dX4_cls_43 (by decide +kernel) (by decide +kernel) (by decide +kernel) (by decide) ?_
          refine lv_iload_n hx hb dX4_cls_130 rfl (lv_at hl 3 rfl) ?_
          refine lv_if_lt (tgt := 140) hx hb dX4_cls_131 (by decide) (fun c_131 => ?_) (fun c_131 => ?_)
          · refine lv_iload_n hx hb dX4_cls_140 rfl (lv_at hl 3 rfl) ?_
            refine lv_bipush (v := nI 127) hx hb dX4_cls_141 (by decide) ?_
            refine lv_icmp_ne (tgt := 150) hx hb dX4_cls_143 (by decide) (fun c_143 => ?_) (fun c_143 => ?_)
            · refine lv_iconst (v := 0) hx hb dX4_cls_150 (by decide) ?_
              exact mw_zret (v := 0) (ty := .boolean) hE hr hlocks hP hS dX4_cls_151 (rfl) (⟨_, rfl, hV, Or.inr ⟨5, by decide, rfl, by simp [clsf, bz, c_8, c_26, c_131, c_143]⟩⟩)
            · refine lv_iconst (v := 1) hx hb dX4_cls_146 (by decide) ?_
              refine lv_goto (tgt := 151) hx hb dX4_cls_147 (by decide) ?_
              exact mw_zret (v := 1) (ty := .boolean) hE hr hlocks hP hS dX4_cls_151 (rfl) (⟨_, rfl, hV, Or.inr ⟨5, by decide, rfl, by simp [clsf, bz, c_8, c_26, c_131, c_143]⟩⟩)
          · refine lv_iload_n hx hb dX4_cls_134 rfl (lv_at hl 3 rfl) ?_
            refine lv_bipush (v := nI 32) hx hb dX4_cls_135 (by decide) ?_
            refine lv_icmp_lt (tgt := 146) hx hb dX4_cls_137 (by decide) (fun c_137 => ?_) (fun c_137 => ?_)
            · refine lv_iconst (v := 1) hx hb dX4_cls_146 (by decide) ?_
              refine lv_goto (tgt := 151) hx hb dX4_cls_147 (by decide) ?_
              exact mw_zret (v := 1) (ty := .boolean) hE hr hlocks hP hS dX4_cls_151 (rfl) (⟨_, rfl, hV, Or.inr ⟨5, by decide, rfl, by simp [clsf, bz, c_8, c_26, c_131, c_137]⟩⟩)
            · refine lv_iload_n hx hb dX4_cls_140 rfl (lv_at hl 3 rfl) ?_
              refine lv_bipush (v := nI 127) hx hb dX4_cls_141 (by decide) ?_
              refine lv_icmp_ne (tgt := 150) hx hb dX4_cls_143 (by decide) (fun c_143 => ?_) (fun c_143 => ?_)
              · refine lv_iconst (v := 0) hx hb dX4_cls_150 (by decide) ?_
                exact mw_zret (v := 0) (ty := .boolean) hE hr hlocks hP hS dX4_cls_151 (rfl) (⟨_, rfl, hV, Or.inr ⟨5, by decide, rfl, by simp [clsf, bz, c_8, c_26, c_131, c_137, c_143]⟩⟩)
              · refine lv_iconst (v := 1) hx hb dX4_cls_146 (by decide) ?_
                refine lv_goto (tgt := 151) hx hb dX4_cls_147 (by decide) ?_
                exact mw_zret (v := 1) (ty := .boolean) hE hr hlocks hP hS dX4_cls_151 (rfl) (⟨_, rfl, hV, Or.inr ⟨5, by decide, rfl, by simp [clsf, bz, c_8, c_26, c_131, c_137, c_143]⟩⟩)
    · refine lv_iload_n hx hb dX4_cls_29 rfl (lv_at hl 2 rfl) ?_
      refine lv_bipush (v := nI 122) hx hb dX4_cls_30 (by decide) ?_
      refine lv_icmp_gt (tgt := 39) hx hb dX4_cls_32 (by decide) (fun c_32 => ?_) (fun c_32 => ?_)
      · refine lv_iconst (v := 0) hx hb dX4_cls_39 (by decide) ?_
        refine lv_istore (lv' := [(4, .int 0), (3, .int 0), (0, .ref (ad 0)), (1, .int x), (2, .int y)]) hx hb dX4_cls_40 hl (by decide) rfl (fun ls hl => ?_)
        refine lv_iload_n hx hb dX4_cls_42 rfl (lv_at hl 4 rfl) ?_
        rcases sw_cases y 6 (by decide) with hw_14 | ⟨jw_14, hjw_14, ew_14⟩
        · refine lv_tableOut (tgt := 152) hx hb dX4_cls_43 (sw_out (by decide) hw_14) (by decide) ?_
          refine lv_iconst (v := 0) hx hb dX4_cls_152 (by decide) ?_
          exact mw_zret (v := 0) (ty := .boolean) hE hr hlocks hP hS dX4_cls_153 (rfl) (⟨_, rfl, hV, Or.inl ⟨hw_14, rfl⟩⟩)
        · rcases (show jw_14 = 0 ∨ jw_14 = 1 ∨ jw_14 = 2 ∨ jw_14 = 3 ∨ jw_14 = 4 ∨ jw_14 = 5 by omega) with rfl | rfl | rfl | rfl | rfl | rfl
          · subst ew_14
            refine lv_tableIn (off := (37)) (tgt := 80) hx hb dX4_cls_43 (by decide +kernel) (by decide +kernel) (by decide +kernel) (by decide) ?_
            refine lv_iload_n hx hb dX4_cls_80 rfl (lv_at hl 3 rfl) ?_
            refine lv_bipush (v := nI 48) hx hb dX4_cls_81 (by decide) ?_
            refine lv_icmp_lt (tgt := 96) hx hb dX4_cls_83 (by decide) (fun c_83 => ?_) (fun c_83 => ?_)
            · refine lv_iconst (v := 0) hx hb dX4_cls_96 (by decide) ?_
              exact mw_zret (v := 0) (ty := .boolean) hE hr hlocks hP hS dX4_cls_97 (rfl) (⟨_, rfl, hV, Or.inr ⟨0, by decide, rfl, by simp [clsf, bz, c_8, c_26, c_32, c_83]⟩⟩)
            · refine lv_iload_n hx hb dX4_cls_86 rfl (lv_at hl 3 rfl) ?_
              refine lv_bipush (v := nI 57) hx hb dX4_cls_87 (by decide) ?_
              refine lv_icmp_gt (tgt := 96) hx hb dX4_cls_89 (by decide) (fun c_89 => ?_) (fun c_89 => ?_)
              · refine lv_iconst (v := 0) hx hb dX4_cls_96 (by decide) ?_
                exact mw_zret (v := 0) (ty := .boolean) hE hr hlocks hP hS dX4_cls_97 (rfl) (⟨_, rfl, hV, Or.inr ⟨0, by decide, rfl, by simp [clsf, bz, c_8, c_26, c_32, c_83, c_89]⟩⟩)
              · refine lv_iconst (v := 1) hx hb dX4_cls_92 (by decide) ?_
                refine lv_goto (tgt := 97) hx hb dX4_cls_93 (by decide) ?_
                exact mw_zret (v := 1) (ty := .boolean) hE hr hlocks hP hS dX4_cls_97 (rfl) (⟨_, rfl, hV, Or.inr ⟨0, by decide, rfl, by simp [clsf, bz, c_8, c_26, c_32, c_83, c_89]⟩⟩)
          · subst ew_14
            refine lv_tableIn (off := (55)) (tgt := 98) hx hb dX4_cls_43 (by decide +kernel) (by decide +kernel) (by decide +kernel) (by decide) ?_
            refine lv_iload_n hx hb dX4_cls_98 rfl (lv_at hl 1 rfl) ?_
            refine lv_if_ne (tgt := 107) hx hb dX4_cls_99 (by decide) (fun c9 => absurd (by decide) c9) (fun _ => ?_)
            refine lv_iload hx hb dX4_cls_102 (lv_at hl 0 rfl) ?_
            refine lv_if_eq (tgt := 111) hx hb dX4_cls_104 (by decide) (fun _ => ?_) (fun c9 => absurd (by decide) c9)
            refine lv_iconst (v := 0) hx hb dX4_cls_111 (by decide) ?_
            exact mw_zret (v := 0) (ty := .boolean) hE hr hlocks hP hS dX4_cls_112 (rfl) (⟨_, rfl, hV, Or.inr ⟨1, by decide, rfl, by simp [clsf, bz, c_8, c_26, c_32]⟩⟩)
          · subst ew_14
            refine lv_tableIn (off := (70)) (tgt := 113) hx hb dX4_cls_43 (by decide +kernel) (by decide +kernel) (by decide +kernel) (by decide) ?_
            refine lv_iload_n hx hb dX4_cls_113 rfl (lv_at hl 1 rfl) ?_
            exact mw_zret (v := 0) (ty := .boolean) hE hr hlocks hP hS dX4_cls_114 (rfl) (⟨_, rfl, hV, Or.inr ⟨2, by decide, rfl, by simp [clsf, bz, c_8, c_26, c_32]⟩⟩)
          · subst ew_14
            refine lv_tableIn (off := (72)) (tgt := 115) hx hb dX4_cls_43 (by decide +kernel) (by decide +kernel) (by decide +kernel) (by decide) ?_
            refine lv_iload hx hb dX4_cls_115 (lv_at hl 0 rfl) ?_
            exact mw_zret (v := 0) (ty := .boolean) hE hr hlocks hP hS dX4_cls_117 (rfl) (⟨_, rfl, hV, Or.inr ⟨3, by decide, rfl, by simp [clsf, bz, c_8, c_26, c_32]⟩⟩)
          · subst ew_14
            refine lv_tableIn (off := (75)) (tgt := 118) hx hb dX4_cls_43 (by decide +kernel) (by decide +kernel) (by decide +kernel) (by decide) ?_
            refine lv_iload_n hx hb dX4_cls_118 rfl (lv_at hl 3 rfl) ?_
            refine lv_bipush (v := nI 32) hx hb dX4_cls_119 (by decide) ?_
            refine lv_icmp_ne (tgt := 128) hx hb dX4_cls_121 (by decide) (fun c_121 => ?_) (fun c_121 => ?_)
            · refine lv_iconst (v := 0) hx hb dX4_cls_128 (by decide) ?_
              exact mw_zret (v := 0) (ty := .boolean) hE hr hlocks hP hS dX4_cls_129 (rfl) (⟨_, rfl, hV, Or.inr ⟨4, by decide, rfl, by simp [clsf, bz, c_8, c_26, c_32, c_121]⟩⟩)
            · refine lv_iconst (v := 1) hx hb dX4_cls_124 (by decide) ?_
              refine lv_goto (tgt := 129) hx hb dX4_cls_125 (by decide) ?_
              exact mw_zret (v := 1) (ty := .boolean) hE hr hlocks hP hS dX4_cls_129 (rfl) (⟨_, rfl, hV, Or.inr ⟨4, by decide, rfl, by simp [clsf, bz, c_8, c_26, c_32, c_121]⟩⟩)
          · subst ew_14
            refine lv_tableIn (off := (87)) (tgt := 130) hx hb dX4_cls_43 (by decide +kernel) (by decide +kernel) (by decide +kernel) (by decide) ?_
            refine lv_iload_n hx hb dX4_cls_130 rfl (lv_at hl 3 rfl) ?_
            refine lv_if_lt (tgt := 140) hx hb dX4_cls_131 (by decide) (fun c_131 => ?_) (fun c_131 => ?_)
            · refine lv_iload_n hx hb dX4_cls_140 rfl (lv_at hl 3 rfl) ?_
              refine lv_bipush (v := nI 127) hx hb dX4_cls_141 (by decide) ?_
              refine lv_icmp_ne (tgt := 150) hx hb dX4_cls_143 (by decide) (fun c_143 => ?_) (fun c_143 => ?_)
              · refine lv_iconst (v := 0) hx hb dX4_cls_150 (by decide) ?_
                exact mw_zret (v := 0) (ty := .boolean) hE hr hlocks hP hS dX4_cls_151 (rfl) (⟨_, rfl, hV, Or.inr ⟨5, by decide, rfl, by simp [clsf, bz, c_8, c_26, c_32, c_131, c_143]⟩⟩)
              · refine lv_iconst (v := 1) hx hb dX4_cls_146 (by decide) ?_
                refine lv_goto (tgt := 151) hx hb dX4_cls_147 (by decide) ?_
                exact mw_zret (v := 1) (ty := .boolean) hE hr hlocks hP hS dX4_cls_151 (rfl) (⟨_, rfl, hV, Or.inr ⟨5, by decide, rfl, by simp [clsf, bz, c_8, c_26, c_32, c_131, c_143]⟩⟩)
            · refine lv_iload_n hx hb dX4_cls_134 rfl (lv_at hl 3 rfl) ?_
              refine lv_bipush (v := nI 32) hx hb dX4_cls_135 (by decide) ?_
              refine lv_icmp_lt (tgt := 146) hx hb dX4_cls_137 (by decide) (fun c_137 => ?_) (fun c_137 => ?_)
              · refine lv_iconst (v := 1) hx hb dX4_cls_146 (by decide) ?_
                refine lv_goto (tgt := 151) hx hb dX4_cls_147 (by decide) ?_
                exact mw_zret (v := 1) (ty := .boolean) hE hr hlocks hP hS dX4_cls_151 (rfl) (⟨_, rfl, hV, Or.inr ⟨5, by decide, rfl, by simp [clsf, bz, c_8, c_26, c_32, c_131, c_137]⟩⟩)
              · refine lv_iload_n hx hb dX4_cls_140 rfl (lv_at hl 3 rfl) ?_
                refine lv_bipush (v := nI 127) hx hb dX4_cls_141 (by decide) ?_
                refine lv_icmp_ne (tgt := 150) hx hb dX4_cls_143 (by decide) (fun c_143 => ?_) (fun c_143 => ?_)
                · refine lv_iconst (v := 0) hx hb dX4_cls_150 (by decide) ?_
                  exact mw_zret (v := 0) (ty := .boolean) hE hr hlocks hP hS dX4_cls_151 (rfl) (⟨_, rfl, hV, Or.inr ⟨5, by decide, rfl, by simp [clsf, bz, c_8, c_26, c_32, c_131, c_137, c_143]⟩⟩)
                · refine lv_iconst (v := 1) hx hb dX4_cls_146 (by decide) ?_
                  refine lv_goto (tgt := 151) hx hb dX4_cls_147 (by decide) ?_
                  exact mw_zret (v := 1) (ty := .boolean) hE hr hlocks hP hS dX4_cls_151 (rfl) (⟨_, rfl, hV, Or.inr ⟨5, by decide, rfl, by simp [clsf, bz, c_8, c_26, c_32, c_131, c_137, c_143]⟩⟩)
      · refine lv_iconst (v := 1) hx hb dX4_cls_35 (by decide) ?_
        refine lv_goto (tgt := 40) hx hb dX4_cls_36 (by decide) ?_
        refine lv_istore (lv' := [(4, .int 1), (3, .int 0), (0, .ref (ad 0)), (1, .int x), (2, .int y)]) hx hb dX4_cls_40 hl (by decide) rfl (fun ls hl => ?_)
        refine lv_iload_n hx hb dX4_cls_42 rfl (lv_at hl 4 rfl) ?_
        rcases sw_cases y 6 (by decide) with hw_24 | ⟨jw_24, hjw_24, ew_24⟩
        · refine lv_tableOut (tgt := 152) hx hb dX4_cls_43 (sw_out (by decide) hw_24) (by decide) ?_
          refine lv_iconst (v := 0) hx hb dX4_cls_152 (by decide) ?_
          exact mw_zret (v := 0) (ty := .boolean) hE hr hlocks hP hS dX4_cls_153 (rfl) (⟨_, rfl, hV, Or.inl ⟨hw_24, rfl⟩⟩)
        · rcases (show jw_24 = 0 ∨ jw_24 = 1 ∨ jw_24 = 2 ∨ jw_24 = 3 ∨ jw_24 = 4 ∨ jw_24 = 5 by omega) with rfl | rfl | rfl | rfl | rfl | rfl
          · subst ew_24
            refine lv_tableIn (off := (37)) (tgt := 80) hx hb dX4_cls_43 (by decide +kernel) (by decide +kernel) (by decide +kernel) (by decide) ?_
            refine lv_iload_n hx hb dX4_cls_80 rfl (lv_at hl 3 rfl) ?_
            refine lv_bipush (v := nI 48) hx hb dX4_cls_81 (by decide) ?_
            refine lv_icmp_lt (tgt := 96) hx hb dX4_cls_83 (by decide) (fun c_83 => ?_) (fun c_83 => ?_)
            · refine lv_iconst (v := 0) hx hb dX4_cls_96 (by decide) ?_
              exact mw_zret (v := 0) (ty := .boolean) hE hr hlocks hP hS dX4_cls_97 (rfl) (⟨_, rfl, hV, Or.inr ⟨0, by decide, rfl, by simp [clsf, bz, c_8, c_26, c_32, c_83]⟩⟩)
            · refine lv_iload_n hx hb dX4_cls_86 rfl (lv_at hl 3 rfl) ?_
              refine lv_bipush (v := nI 57) hx hb dX4_cls_87 (by decide) ?_
              refine lv_icmp_gt (tgt := 96) hx hb dX4_cls_89 (by decide) (fun c_89 => ?_) (fun c_89 => ?_)
              · refine lv_iconst (v := 0) hx hb dX4_cls_96 (by decide) ?_
                exact mw_zret (v := 0) (ty := .boolean) hE hr hlocks hP hS dX4_cls_97 (rfl) (⟨_, rfl, hV, Or.inr ⟨0, by decide, rfl, by simp [clsf, bz, c_8, c_26, c_32, c_83, c_89]⟩⟩)
              · refine lv_iconst (v := 1) hx hb dX4_cls_92 (by decide) ?_
                refine lv_goto (tgt := 97) hx hb dX4_cls_93 (by decide) ?_
                exact mw_zret (v := 1) (ty := .boolean) hE hr hlocks hP hS dX4_cls_97 (rfl) (⟨_, rfl, hV, Or.inr ⟨0, by decide, rfl, by simp [clsf, bz, c_8, c_26, c_32, c_83, c_89]⟩⟩)
          · subst ew_24
            refine lv_tableIn (off := (55)) (tgt := 98) hx hb dX4_cls_43 (by decide +kernel) (by decide +kernel) (by decide +kernel) (by decide) ?_
            refine lv_iload_n hx hb dX4_cls_98 rfl (lv_at hl 1 rfl) ?_
            refine lv_if_ne (tgt := 107) hx hb dX4_cls_99 (by decide) (fun c9 => absurd (by decide) c9) (fun _ => ?_)
            refine lv_iload hx hb dX4_cls_102 (lv_at hl 0 rfl) ?_
            refine lv_if_eq (tgt := 111) hx hb dX4_cls_104 (by decide) (fun c9 => absurd c9 (by decide)) (fun _ => ?_)
            refine lv_iconst (v := 1) hx hb dX4_cls_107 (by decide) ?_
            refine lv_goto (tgt := 112) hx hb dX4_cls_108 (by decide) ?_
            exact mw_zret (v := 1) (ty := .boolean) hE hr hlocks hP hS dX4_cls_112 (rfl) (⟨_, rfl, hV, Or.inr ⟨1, by decide, rfl, by simp [clsf, bz, c_8, c_26, c_32]⟩⟩)
          · subst ew_24
            refine lv_tableIn (off := (70)) (tgt := 113) hx hb dX4_cls_43 (by decide +kernel) (by decide +kernel) (by decide +kernel) (by decide) ?_
            refine lv_iload_n hx hb dX4_cls_113 rfl (lv_at hl 1 rfl) ?_
            exact mw_zret (v := 0) (ty := .boolean) hE hr hlocks hP hS dX4_cls_114 (rfl) (⟨_, rfl, hV, Or.inr ⟨2, by decide, rfl, by simp [clsf, bz, c_8, c_26, c_32]⟩⟩)
          · subst ew_24
            refine lv_tableIn (off := (72)) (tgt := 115) hx hb dX4_cls_43 (by decide +kernel) (by decide +kernel) (by decide +kernel) (by decide) ?_
            refine lv_iload hx hb dX4_cls_115 (lv_at hl 0 rfl) ?_
            exact mw_zret (v := 1) (ty := .boolean) hE hr hlocks hP hS dX4_cls_117 (rfl) (⟨_, rfl, hV, Or.inr ⟨3, by decide, rfl, by simp [clsf, bz, c_8, c_26, c_32]⟩⟩)
          · subst ew_24
            refine lv_tableIn (off := (75)) (tgt := 118) hx hb dX4_cls_43 (by decide +kernel) (by decide +kernel) (by decide +kernel) (by decide) ?_
            refine lv_iload_n hx hb dX4_cls_118 rfl (lv_at hl 3 rfl) ?_
            refine lv_bipush (v := nI 32) hx hb dX4_cls_119 (by decide) ?_
            refine lv_icmp_ne (tgt := 128) hx hb dX4_cls_121 (by decide) (fun c_121 => ?_) (fun c_121 => ?_)
            · refine lv_iconst (v := 0) hx hb dX4_cls_128 (by decide) ?_
              exact mw_zret (v := 0) (ty := .boolean) hE hr hlocks hP hS dX4_cls_129 (rfl) (⟨_, rfl, hV, Or.inr ⟨4, by decide, rfl, by simp [clsf, bz, c_8, c_26, c_32, c_121]⟩⟩)
            · refine lv_iconst (v := 1) hx hb dX4_cls_124 (by decide) ?_
              refine lv_goto (tgt := 129) hx hb dX4_cls_125 (by decide) ?_
              exact mw_zret (v := 1) (ty := .boolean) hE hr hlocks hP hS dX4_cls_129 (rfl) (⟨_, rfl, hV, Or.inr ⟨4, by decide, rfl, by simp [clsf, bz, c_8, c_26, c_32, c_121]⟩⟩)
          · subst ew_24
            refine lv_tableIn (off := (87)) (tgt := 130) hx hb dX4_cls_43 (by decide +kernel) (by decide +kernel) (by decide +kernel) (by decide) ?_
            refine lv_iload_n hx hb dX4_cls_130 rfl (lv_at hl 3 rfl) ?_
            refine lv_if_lt (tgt := 140) hx hb dX4_cls_131 (by decide) (fun c_131 => ?_) (fun c_131 => ?_)
            · refine lv_iload_n hx hb dX4_cls_140 rfl (lv_at hl 3 rfl) ?_
              refine lv_bipush (v := nI 127) hx hb dX4_cls_141 (by decide) ?_
              refine lv_icmp_ne (tgt := 150) hx hb dX4_cls_143 (by decide) (fun c_143 => ?_) (fun c_143 => ?_)
              · refine lv_iconst (v := 0) hx hb dX4_cls_150 (by decide) ?_
                exact mw_zret (v := 0) (ty := .boolean) hE hr hlocks hP hS dX4_cls_151 (rfl) (⟨_, rfl, hV, Or.inr ⟨5, by decide, rfl, by simp [clsf, bz, c_8, c_26, c_32, c_131, c_143]⟩⟩)
              · refine lv_iconst (v := 1) hx hb dX4_cls_146 (by decide) ?_
                refine lv_goto (tgt := 151) hx hb dX4_cls_147 (by decide) ?_
                exact mw_zret (v := 1) (ty := .boolean) hE hr hlocks hP hS dX4_cls_151 (rfl) (⟨_, rfl, hV, Or.inr ⟨5, by decide, rfl, by simp [clsf, bz, c_8, c_26, c_32, c_131, c_143]⟩⟩)
            · refine lv_iload_n hx hb dX4_cls_134 rfl (lv_at hl 3 rfl) ?_
              refine lv_bipush (v := nI 32) hx hb dX4_cls_135 (by decide) ?_
              refine lv_icmp_lt (tgt := 146) hx hb dX4_cls_137 (by decide) (fun c_137 => ?_) (fun c_137 => ?_)
              · refine lv_iconst (v := 1) hx hb dX4_cls_146 (by decide) ?_
                refine lv_goto (tgt := 151) hx hb dX4_cls_147 (by decide) ?_
                exact mw_zret (v := 1) (ty := .boolean) hE hr hlocks hP hS dX4_cls_151 (rfl) (⟨_, rfl, hV, Or.inr ⟨5, by decide, rfl, by simp [clsf, bz, c_8, c_26, c_32, c_131, c_137]⟩⟩)
              · refine lv_iload_n hx hb dX4_cls_140 rfl (lv_at hl 3 rfl) ?_
                refine lv_bipush (v := nI 127) hx hb dX4_cls_141 (by decide) ?_
                refine lv_icmp_ne (tgt := 150) hx hb dX4_cls_143 (by decide) (fun c_143 => ?_) (fun c_143 => ?_)
                · refine lv_iconst (v := 0) hx hb dX4_cls_150 (by decide) ?_
                  exact mw_zret (v := 0) (ty := .boolean) hE hr hlocks hP hS dX4_cls_151 (rfl) (⟨_, rfl, hV, Or.inr ⟨5, by decide, rfl, by simp [clsf, bz, c_8, c_26, c_32, c_131, c_137, c_143]⟩⟩)
                · refine lv_iconst (v := 1) hx hb dX4_cls_146 (by decide) ?_
                  refine lv_goto (tgt := 151) hx hb dX4_cls_147 (by decide) ?_
                  exact mw_zret (v := 1) (ty := .boolean) hE hr hlocks hP hS dX4_cls_151 (rfl) (⟨_, rfl, hV, Or.inr ⟨5, by decide, rfl, by simp [clsf, bz, c_8, c_26, c_32, c_131, c_137, c_143]⟩⟩)
  · refine lv_iload_n hx hb dX4_cls_11 rfl (lv_at hl 1 rfl) ?_
    refine lv_bipush (v := nI 90) hx hb dX4_cls_12 (by decide) ?_
    refine lv_icmp_gt (tgt := 21) hx hb dX4_cls_14 (by decide) (fun c_14 => ?_) (fun c_14 => ?_)
    · refine lv_iconst (v := 0) hx hb dX4_cls_21 (by decide) ?_
      refine lv_istore_n (lv' := [(3, .int 0), (0, .ref (ad 0)), (1, .int x), (2, .int y)]) hx hb dX4_cls_22 rfl hl (by decide) rfl (fun ls hl => ?_)
      refine lv_iload_n hx hb dX4_cls_23 rfl (lv_at hl 2 rfl) ?_
      refine lv_bipush (v := nI 97) hx hb dX4_cls_24 (by decide) ?_
      refine lv_icmp_lt (tgt := 39) hx hb dX4_cls_26 (by decide) (fun c_26 => ?_) (fun c_26 => ?_)
      · refine lv_iconst (v := 0) hx hb dX4_cls_39 (by decide) ?_
        refine lv_istore (lv' := [(4, .int 0), (3, .int 0), (0, .ref (ad 0)), (1, .int x), (2, .int y)]) hx hb dX4_cls_40 hl (by decide) rfl (fun ls hl => ?_)
        refine lv_iload_n hx hb dX4_cls_42 rfl (lv_at hl 4 rfl) ?_
        rcases sw_cases y 6 (by decide) with hw_36 | ⟨jw_36, hjw_36, ew_36⟩
        · refine lv_tableOut (tgt := 152) hx hb dX4_cls_43 (sw_out (by decide) hw_36) (by decide) ?_
          refine lv_iconst (v := 0) hx hb dX4_cls_152 (by decide) ?_
          exact mw_zret (v := 0) (ty := .boolean) hE hr hlocks hP hS dX4_cls_153 (rfl) (⟨_, rfl, hV, Or.inl ⟨hw_36, rfl⟩⟩)
        · rcases (show jw_36 = 0 ∨ jw_36 = 1 ∨ jw_36 = 2 ∨ jw_36 = 3 ∨ jw_36 = 4 ∨ jw_36 = 5 by omega) with rfl | rfl | rfl | rfl | rfl | rfl
          · subst ew_36
            refine lv_tableIn (off := (37)) (tgt := 80) hx hb dX4_cls_43 (by decide +kernel) (by decide +kernel) (by decide +kernel) (by decide) ?_
            refine lv_iload_n hx hb dX4_cls_80 rfl (lv_at hl 3 rfl) ?_
            refine lv_bipush (v := nI 48) hx hb dX4_cls_81 (by decide) ?_
            refine lv_icmp_lt (tgt := 96) hx hb dX4_cls_83 (by decide) (fun c_83 => ?_) (fun c_83 => ?_)
            · refine lv_iconst (v := 0) hx hb dX4_cls_96 (by decide) ?_
              exact mw_zret (v := 0) (ty := .boolean) hE hr hlocks hP hS dX4_cls_97 (rfl) (⟨_, rfl, hV, Or.inr ⟨0, by decide, rfl, by simp [clsf, bz, c_8, c_14, c_26, c_83]⟩⟩)
            · refine lv_iload_n hx hb dX4_cls_86 rfl (lv_at hl 3 rfl) ?_
              refine lv_bipush (v := nI 57) hx hb dX4_cls_87 (by decide) ?_
              refine lv_icmp_gt (tgt := 96) hx hb dX4_cls_89 (by decide) (fun c_89 => ?_) (fun c_89 => ?_)
              · refine lv_iconst (v := 0) hx hb dX4_cls_96 (by decide) ?_
                exact mw_zret (v := 0) (ty := .boolean) hE hr hlocks hP hS dX4_cls_97 (rfl) (⟨_, rfl, hV, Or.inr ⟨0, by decide, rfl, by simp [clsf, bz, c_8, c_14, c_26, c_83, c_89]⟩⟩)
              · refine lv_iconst (v := 1) hx hb dX4_cls_92 (by decide) ?_
                refine lv_goto (tgt := 97) hx hb dX4_cls_93 (by decide) ?_
                exact mw_zret (v := 1) (ty := .boolean) hE hr hlocks hP hS dX4_cls_97 (rfl) (⟨_, rfl, hV, Or.inr ⟨0, by decide, rfl, by simp [clsf, bz, c_8, c_14, c_26, c_83, c_89]⟩⟩)
          · subst ew_36
            refine lv_tableIn (off := (55)) (tgt := 98) hx hb dX4_cls_43 (by decide +kernel) (by decide +kernel) (by decide +kernel) (by decide) ?_
            refine lv_iload_n hx hb dX4_cls_98 rfl (lv_at hl 1 rfl) ?_
            refine lv_if_ne (tgt := 107) hx hb dX4_cls_99 (by decide) (fun c9 => absurd (by decide) c9) (fun _ => ?_)
            refine lv_iload hx hb dX4_cls_102 (lv_at hl 0 rfl) ?_
            refine lv_if_eq (tgt := 111) hx hb dX4_cls_104 (by decide) (fun _ => ?_) (fun c9 => absurd (by decide) c9)
            refine lv_iconst (v := 0) hx hb dX4_cls_111 (by decide) ?_
            exact mw_zret (v := 0) (ty := .boolean) hE hr hlocks hP hS dX4_cls_112 (rfl) (⟨_, rfl, hV, Or.inr ⟨1, by decide, rfl, by simp [clsf, bz, c_8, c_14, c_26]⟩⟩)
          · subst ew_36
            refine lv_tableIn (off := (70)) (tgt := 113) hx hb dX4_cls_43 (by decide +kernel) (by decide +kernel) (by decide +kernel) (by decide) ?_
            refine lv_iload_n hx hb dX4_cls_113 rfl (lv_at hl 1 rfl) ?_
            exact mw_zret (v := 0) (ty := .boolean) hE hr hlocks hP hS dX4_cls_114 (rfl) (⟨_, rfl, hV, Or.inr ⟨2, by decide, rfl, by simp [clsf, bz, c_8, c_14, c_26]⟩⟩)
          · subst ew_36
            refine lv_tableIn (off := (72)) (tgt := 115) hx hb dX4_cls_43 (by decide +kernel) (by decide +kernel) (by decide +kernel) (by decide) ?_
            refine lv_iload hx hb dX4_cls_115 (lv_at hl 0 rfl) ?_
            exact mw_zret (v := 0) (ty := .boolean) hE hr hlocks hP hS dX4_cls_117 (rfl) (⟨_, rfl, hV, Or.inr ⟨3, by decide, rfl, by simp [clsf, bz, c_8, c_14, c_26]⟩⟩)
          · subst ew_36
            refine lv_tableIn (off := (75)) (tgt := 118) hx hb dX4_cls_43 (by decide +kernel) (by decide +kernel) (by decide +kernel) (by decide) ?_
            refine lv_iload_n hx hb dX4_cls_118 rfl (lv_at hl 3 rfl) ?_
            refine lv_bipush (v := nI 32) hx hb dX4_cls_119 (by decide) ?_
            refine lv_icmp_ne (tgt := 128) hx hb dX4_cls_121 (by decide) (fun c_121 => ?_) (fun c_121 => ?_)
            · refine lv_iconst (v := 0) hx hb dX4_cls_128 (by decide) ?_
              exact mw_zret (v := 0) (ty := .boolean) hE hr hlocks hP hS dX4_cls_129 (rfl) (⟨_, rfl, hV, Or.inr ⟨4, by decide, rfl, by simp [clsf, bz, c_8, c_14, c_26, c_121]⟩⟩)
            · refine lv_iconst (v := 1) hx hb dX4_cls_124 (by decide) ?_
              refine lv_goto (tgt := 129) hx hb dX4_cls_125 (by decide) ?_
              exact mw_zret (v := 1) (ty := .boolean) hE hr hlocks hP hS dX4_cls_129 (rfl) (⟨_, rfl, hV, Or.inr ⟨4, by decide, rfl, by simp [clsf, bz, c_8, c_14, c_26, c_121]⟩⟩)
          · subst ew_36
            refine lv_tableIn (off := (87)) (tgt := 130) hx hb dX4_cls_43 (by decide +kernel) (by decide +kernel) (by decide +kernel) (by decide) ?_
            refine lv_iload_n hx hb dX4_cls_130 rfl (lv_at hl 3 rfl) ?_
            refine lv_if_lt (tgt := 140) hx hb dX4_cls_131 (by decide) (fun c_131 => ?_) (fun c_131 => ?_)
            · refine lv_iload_n hx hb dX4_cls_140 rfl (lv_at hl 3 rfl) ?_
              refine lv_bipush (v := nI 127) hx hb dX4_cls_141 (by decide) ?_
              refine lv_icmp_ne (tgt := 150) hx hb dX4_cls_143 (by decide) (fun c_143 => ?_) (fun c_143 => ?_)
              · refine lv_iconst (v := 0) hx hb dX4_cls_150 (by decide) ?_
                exact mw_zret (v := 0) (ty := .boolean) hE hr hlocks hP hS dX4_cls_151 (rfl) (⟨_, rfl, hV, Or.inr ⟨5, by decide, rfl, by simp [clsf, bz, c_8, c_14, c_26, c_131, c_143]⟩⟩)
              · refine lv_iconst (v := 1) hx hb dX4_cls_146 (by decide) ?_
                refine lv_goto (tgt := 151) hx hb dX4_cls_147 (by decide) ?_
                exact mw_zret (v := 1) (ty := .boolean) hE hr hlocks hP hS dX4_cls_151 (rfl) (⟨_, rfl, hV, Or.inr ⟨5, by decide, rfl, by simp [clsf, bz, c_8, c_14, c_26, c_131, c_143]⟩⟩)
            · refine lv_iload_n hx hb dX4_cls_134 rfl (lv_at hl 3 rfl) ?_
              refine lv_bipush (v := nI 32) hx hb dX4_cls_135 (by decide) ?_
              refine lv_icmp_lt (tgt := 146) hx hb dX4_cls_137 (by decide) (fun c_137 => ?_) (fun c_137 => ?_)
              · refine lv_iconst (v := 1) hx hb dX4_cls_146 (by decide) ?_
                refine lv_goto (tgt := 151) hx hb dX4_cls_147 (by decide) ?_
                exact mw_zret (v := 1) (ty := .boolean) hE hr hlocks hP hS dX4_cls_151 (rfl) (⟨_, rfl, hV, Or.inr ⟨5, by decide, rfl, by simp [clsf, bz, c_8, c_14, c_26, c_131, c_137]⟩⟩)
              · refine lv_iload_n hx hb dX4_cls_140 rfl (lv_at hl 3 rfl) ?_
                refine lv_bipush (v := nI 127) hx hb dX4_cls_141 (by decide) ?_
                refine lv_icmp_ne (tgt := 150) hx hb dX4_cls_143 (by decide) (fun c_143 => ?_) (fun c_143 => ?_)
                · refine lv_iconst (v := 0) hx hb dX4_cls_150 (by decide) ?_
                  exact mw_zret (v := 0) (ty := .boolean) hE hr hlocks hP hS dX4_cls_151 (rfl) (⟨_, rfl, hV, Or.inr ⟨5, by decide, rfl, by simp [clsf, bz, c_8, c_14, c_26, c_131, c_137, c_143]⟩⟩)
                · refine lv_iconst (v := 1) hx hb dX4_cls_146 (by decide) ?_
                  refine lv_goto (tgt := 151) hx hb dX4_cls_147 (by decide) ?_
                  exact mw_zret (v := 1) (ty := .boolean) hE hr hlocks hP hS dX4_cls_151 (rfl) (⟨_, rfl, hV, Or.inr ⟨5, by decide, rfl, by simp [clsf, bz, c_8, c_14, c_26, c_131, c_137, c_143]⟩⟩)
      · refine lv_iload_n hx hb dX4_cls_29 rfl (lv_at hl 2 rfl) ?_
        refine lv_bipush (v := nI 122) hx hb dX4_cls_30 (by decide) ?_
        refine lv_icmp_gt (tgt := 39) hx hb dX4_cls_32 (by decide) (fun c_32 => ?_) (fun c_32 => ?_)
        · refine lv_iconst (v := 0) hx hb dX4_cls_39 (by decide) ?_
          refine lv_istore (lv' := [(4, .int 0), (3, .int 0), (0, .ref (ad 0)), (1, .int x), (2, .int y)]) hx hb dX4_cls_40 hl (by decide) rfl (fun ls hl => ?_)
          refine lv_iload_n hx hb dX4_cls_42 rfl (lv_at hl 4 rfl) ?_
          rcases sw_cases y 6 (by decide) with hw_47 | ⟨jw_47, hjw_47, ew_47⟩
          · refine lv_tableOut (tgt := 152) hx hb dX4_cls_43 (sw_out (by decide) hw_47) (by decide) ?_
            refine lv_iconst (v := 0) hx hb dX4_cls_152 (by decide) ?_
            exact mw_zret (v := 0) (ty := .boolean) hE hr hlocks hP hS dX4_cls_153 (rfl) (⟨_, rfl, hV, Or.inl ⟨hw_47, rfl⟩⟩)
          · rcases (show jw_47 = 0 ∨ jw_47 = 1 ∨ jw_47 = 2 ∨ jw_47 = 3 ∨ jw_47 = 4 ∨ jw_47 = 5 by omega) with rfl | rfl | rfl | rfl | rfl | rfl
            · subst ew_47
              refine lv_tableIn (off := (37)) (tgt := 80) hx hb dX4_cls_43 (by decide +kernel) (by decide +kernel) (by decide +kernel) (by decide) ?_
              refine lv_iload_n hx hb dX4_cls_80 rfl (lv_at hl 3 rfl) ?_
              refine lv_bipush (v := nI 48) hx hb dX4_cls_81 (by decide) ?_
              refine lv_icmp_lt (tgt := 96) hx hb dX4_cls_83 (by decide) (fun c_83 => ?_) (fun c_83 => ?_)
              · refine lv_iconst (v := 0) hx hb dX4_cls_96 (by decide) ?_
                exact mw_zret (v := 0) (ty := .boolean) hE hr hlocks hP hS dX4_cls_97 (rfl) (⟨_, rfl, hV, Or.inr ⟨0, by decide, rfl, by simp [clsf, bz, c_8, c_14, c_26, c_32, c_83]⟩⟩)
              · refine lv_iload_n hx hb dX4_cls_86 rfl (lv_at hl 3 rfl) ?_
                refine lv_bipush (v := nI 57) hx hb dX4_cls_87 (by decide) ?_
                refine lv_icmp_gt (tgt := 96) hx hb dX4_cls_89 (by decide) (fun c_89 => ?_) (fun c_89 => ?_)
                · refine lv_iconst (v := 0) hx hb dX4_cls_96 (by decide) ?_
                  exact mw_zret (v := 0) (ty := .boolean) hE hr hlocks hP hS dX4_cls_97 (rfl) (⟨_, rfl, hV, Or.inr ⟨0, by decide, rfl, by simp [clsf, bz, c_8, c_14, c_26, c_32, c_83, c_89]⟩⟩)
                · refine lv_iconst (v := 1) hx hb dX4_cls_92 (by decide) ?_
                  refine lv_goto (tgt := 97) hx hb dX4_cls_93 (by decide) ?_
                  exact mw_zret (v := 1) (ty := .boolean) hE hr hlocks hP hS dX4_cls_97 (rfl) (⟨_, rfl, hV, Or.inr ⟨0, by decide, rfl, by simp [clsf, bz, c_8, c_14, c_26, c_32, c_83, c_89]⟩⟩)
            · subst ew_47
              refine lv_tableIn (off := (55)) (tgt := 98) hx hb dX4_cls_43 (by decide +kernel) (by decide +kernel) (by decide +kernel) (by decide) ?_
              refine lv_iload_n hx hb dX4_cls_98 rfl (lv_at hl 1 rfl) ?_
              refine lv_if_ne (tgt := 107) hx hb dX4_cls_99 (by decide) (fun c9 => absurd (by decide) c9) (fun _ => ?_)
              refine lv_iload hx hb dX4_cls_102 (lv_at hl 0 rfl) ?_
              refine lv_if_eq (tgt := 111) hx hb dX4_cls_104 (by decide) (fun _ => ?_) (fun c9 => absurd (by decide) c9)
              refine lv_iconst (v := 0) hx hb dX4_cls_111 (by decide) ?_
              exact mw_zret (v := 0) (ty := .boolean) hE hr hlocks hP hS dX4_cls_112 (rfl) (⟨_, rfl, hV, Or.inr ⟨1, by decide, rfl, by simp [clsf, bz, c_8, c_14, c_26, c_32]⟩⟩)
            · subst ew_47
              refine lv_tableIn (off := (70)) (tgt := 113) hx hb dX4_cls_43 (by decide +kernel) (by decide +kernel) (by decide +kernel) (by decide) ?_
              refine lv_iload_n hx hb dX4_cls_113 rfl (lv_at hl 1 rfl) ?_
              exact mw_zret (v := 0) (ty := .boolean) hE hr hlocks hP hS dX4_cls_114 (rfl) (⟨_, rfl, hV, Or.inr ⟨2, by decide, rfl, by simp [clsf, bz, c_8, c_14, c_26, c_32]⟩⟩)
            · subst ew_47
              refine lv_tableIn (off := (72)) (tgt := 115) hx hb dX4_cls_43 (by decide +kernel) (by decide +kernel) (by decide +kernel) (by decide) ?_
              refine lv_iload hx hb dX4_cls_115 (lv_at hl 0 rfl) ?_
              exact mw_zret (v := 0) (ty := .boolean) hE hr hlocks hP hS dX4_cls_117 (rfl) (⟨_, rfl, hV, Or.inr ⟨3, by decide, rfl, by simp [clsf, bz, c_8, c_14, c_26, c_32]⟩⟩)
            · subst ew_47
              refine lv_tableIn (off := (75)) (tgt := 118) hx hb dX4_cls_43 (by decide +kernel) (by decide +kernel) (by decide +kernel) (by decide) ?_
              refine lv_iload_n hx hb dX4_cls_118 rfl (lv_at hl 3 rfl) ?_
              refine lv_bipush (v := nI 32) hx hb dX4_cls_119 (by decide) ?_
              refine lv_icmp_ne (tgt := 128) hx hb dX4_cls_121 (by decide) (fun c_121 => ?_) (fun c_121 => ?_)
              · refine lv_iconst (v := 0) hx hb dX4_cls_128 (by decide) ?_
                exact mw_zret (v := 0) (ty := .boolean) hE hr hlocks hP hS dX4_cls_129 (rfl) (⟨_, rfl, hV, Or.inr ⟨4, by decide, rfl, by simp [clsf, bz, c_8, c_14, c_26, c_32, c_121]⟩⟩)
              · refine lv_iconst (v := 1) hx hb dX4_cls_124 (by decide) ?_
                refine lv_goto (tgt := 129) hx hb dX4_cls_125 (by decide) ?_
                exact mw_zret (v := 1) (ty := .boolean) hE hr hlocks hP hS dX4_cls_129 (rfl) (⟨_, rfl, hV, Or.inr ⟨4, by decide, rfl, by simp [clsf, bz, c_8, c_14, c_26, c_32, c_121]⟩⟩)
            · subst ew_47
              refine lv_tableIn (off := (87)) (tgt := 130) hx hb dX4_cls_43 (by decide +kernel) (by decide +kernel) (by decide +kernel) (by decide) ?_
              refine lv_iload_n hx hb dX4_cls_130 rfl (lv_at hl 3 rfl) ?_
              refine lv_if_lt (tgt := 140) hx hb dX4_cls_131 (by decide) (fun c_131 => ?_) (fun c_131 => ?_)
              · refine lv_iload_n hx hb dX4_cls_140 rfl (lv_at hl 3 rfl) ?_
                refine lv_bipush (v := nI 127) hx hb dX4_cls_141 (by decide) ?_
                refine lv_icmp_ne (tgt := 150) hx hb dX4_cls_143 (by decide) (fun c_143 => ?_) (fun c_143 => ?_)
                · refine lv_iconst (v := 0) hx hb dX4_cls_150 (by decide) ?_
                  exact mw_zret (v := 0) (ty := .boolean) hE hr hlocks hP hS dX4_cls_151 (rfl) (⟨_, rfl, hV, Or.inr ⟨5, by decide, rfl, by simp [clsf, bz, c_8, c_14, c_26, c_32, c_131, c_143]⟩⟩)
                · refine lv_iconst (v := 1) hx hb dX4_cls_146 (by decide) ?_
                  refine lv_goto (tgt := 151) hx hb dX4_cls_147 (by decide) ?_
                  exact mw_zret (v := 1) (ty := .boolean) hE hr hlocks hP hS dX4_cls_151 (rfl) (⟨_, rfl, hV, Or.inr ⟨5, by decide, rfl, by simp [clsf, bz, c_8, c_14, c_26, c_32, c_131, c_143]⟩⟩)
              · refine lv_iload_n hx hb dX4_cls_134 rfl (lv_at hl 3 rfl) ?_
                refine lv_bipush (v := nI 32) hx hb dX4_cls_135 (by decide) ?_
                refine lv_icmp_lt (tgt := 146) hx hb dX4_cls_137 (by decide) (fun c_137 => ?_) (fun c_137 => ?_)
                · refine lv_iconst (v := 1) hx hb dX4_cls_146 (by decide) ?_
                  refine lv_goto (tgt := 151) hx hb dX4_cls_147 (by decide) ?_
                  exact mw_zret (v := 1) (ty := .boolean) hE hr hlocks hP hS dX4_cls_151 (rfl) (⟨_, rfl, hV, Or.inr ⟨5, by decide, rfl, by simp [clsf, bz, c_8, c_14, c_26, c_32, c_131, c_137]⟩⟩)
                · refine lv_iload_n hx hb dX4_cls_140 rfl (lv_at hl 3 rfl) ?_
                  refine lv_bipush (v := nI 127) hx hb dX4_cls_141 (by decide) ?_
                  refine lv_icmp_ne (tgt := 150) hx hb dX4_cls_143 (by decide) (fun c_143 => ?_) (fun c_143 => ?_)
                  · refine lv_iconst (v := 0) hx hb dX4_cls_150 (by decide) ?_
                    exact mw_zret (v := 0) (ty := .boolean) hE hr hlocks hP hS dX4_cls_151 (rfl) (⟨_, rfl, hV, Or.inr ⟨5, by decide, rfl, by simp [clsf, bz, c_8, c_14, c_26, c_32, c_131, c_137, c_143]⟩⟩)
                  · refine lv_iconst (v := 1) hx hb dX4_cls_146 (by decide) ?_
                    refine lv_goto (tgt := 151) hx hb dX4_cls_147 (by decide) ?_
                    exact mw_zret (v := 1) (ty := .boolean) hE hr hlocks hP hS dX4_cls_151 (rfl) (⟨_, rfl, hV, Or.inr ⟨5, by decide, rfl, by simp [clsf, bz, c_8, c_14, c_26, c_32, c_131, c_137, c_143]⟩⟩)
        · refine lv_iconst (v := 1) hx hb dX4_cls_35 (by decide) ?_
          refine lv_goto (tgt := 40) hx hb dX4_cls_36 (by decide) ?_
          refine lv_istore (lv' := [(4, .int 1), (3, .int 0), (0, .ref (ad 0)), (1, .int x), (2, .int y)]) hx hb dX4_cls_40 hl (by decide) rfl (fun ls hl => ?_)
          refine lv_iload_n hx hb dX4_cls_42 rfl (lv_at hl 4 rfl) ?_
          rcases sw_cases y 6 (by decide) with hw_57 | ⟨jw_57, hjw_57, ew_57⟩
          · refine lv_tableOut (tgt := 152) hx hb dX4_cls_43 (sw_out (by decide) hw_57) (by decide) ?_
            refine lv_iconst (v := 0) hx hb dX4_cls_152 (by decide) ?_
            exact mw_zret (v := 0) (ty := .boolean) hE hr hlocks hP hS dX4_cls_153 (rfl) (⟨_, rfl, hV, Or.inl ⟨hw_57, rfl⟩⟩)
          · rcases (show jw_57 = 0 ∨ jw_57 = 1 ∨ jw_57 = 2 ∨ jw_57 = 3 ∨ jw_57 = 4 ∨ jw_57 = 5 by omega) with rfl | rfl | rfl | rfl | rfl | rfl
            · subst ew_57
              refine lv_tableIn (off := (37)) (tgt := 80) hx hb dX4_cls_43 (by decide +kernel) (by decide +kernel) (by decide +kernel) (by decide) ?_
              refine lv_iload_n hx hb dX4_cls_80 rfl (lv_at hl 3 rfl) ?_
              refine lv_bipush (v := nI 48) hx hb dX4_cls_81 (by decide) ?_
              refine lv_icmp_lt (tgt := 96) hx hb dX4_cls_83 (by decide) (fun c_83 => ?_) (fun c_83 => ?_)
              · refine lv_iconst (v := 0) hx hb dX4_cls_96 (by decide) ?_
                exact mw_zret (v := 0) (ty := .boolean) hE hr hlocks hP hS dX4_cls_97 (rfl) (⟨_, rfl, hV, Or.inr ⟨0, by decide, rfl, by simp [clsf, bz, c_8, c_14, c_26, c_32, c_83]⟩⟩)
              · refine lv_iload_n hx hb dX4_cls_86 rfl (lv_at hl 3 rfl) ?_
                refine lv_bipush (v := nI 57) hx hb dX4_cls_87 (by decide) ?_
                refine lv_icmp_gt (tgt := 96) hx hb dX4_cls_89 (by decide) (fun c_89 => ?_) (fun c_89 => ?_)
                · refine lv_iconst (v := 0) hx hb dX4_cls_96 (by decide) ?_
                  exact mw_zret (v := 0) (ty := .boolean) hE hr hlocks hP hS dX4_cls_97 (rfl) (⟨_, rfl, hV, Or.inr ⟨0, by decide, rfl, by simp [clsf, bz, c_8, c_14, c_26, c_32, c_83, c_89]⟩⟩)
                · refine lv_iconst (v := 1) hx hb dX4_cls_92 (by decide) ?_
                  refine lv_goto (tgt := 97) hx hb dX4_cls_93 (by decide) ?_
                  exact mw_zret (v := 1) (ty := .boolean) hE hr hlocks hP hS dX4_cls_97 (rfl) (⟨_, rfl, hV, Or.inr ⟨0, by decide, rfl, by simp [clsf, bz, c_8, c_14, c_26, c_32, c_83, c_89]⟩⟩)
            · subst ew_57
              refine lv_tableIn (off := (55)) (tgt := 98) hx hb dX4_cls_43 (by decide +kernel) (by decide +kernel) (by decide +kernel) (by decide) ?_
              refine lv_iload_n hx hb dX4_cls_98 rfl (lv_at hl 1 rfl) ?_
              refine lv_if_ne (tgt := 107) hx hb dX4_cls_99 (by decide) (fun c9 => absurd (by decide) c9) (fun _ => ?_)
              refine lv_iload hx hb dX4_cls_102 (lv_at hl 0 rfl) ?_
              refine lv_if_eq (tgt := 111) hx hb dX4_cls_104 (by decide) (fun c9 => absurd c9 (by decide)) (fun _ => ?_)
              refine lv_iconst (v := 1) hx hb dX4_cls_107 (by decide) ?_
              refine lv_goto (tgt := 112) hx hb dX4_cls_108 (by decide) ?_
              exact mw_zret (v := 1) (ty := .boolean) hE hr hlocks hP hS dX4_cls_112 (rfl) (⟨_, rfl, hV, Or.inr ⟨1, by decide, rfl, by simp [clsf, bz, c_8, c_14, c_26, c_32]⟩⟩)
            · subst ew_57
              refine lv_tableIn (off := (70)) (tgt := 113) hx hb dX4_cls_43 (by decide +kernel) (by decide +kernel) (by decide +kernel) (by decide) ?_
              refine lv_iload_n hx hb dX4_cls_113 rfl (lv_at hl 1 rfl) ?_
              exact mw_zret (v := 0) (ty := .boolean) hE hr hlocks hP hS dX4_cls_114 (rfl) (⟨_, rfl, hV, Or.inr ⟨2, by decide, rfl, by simp [clsf, bz, c_8, c_14, c_26, c_32]⟩⟩)
            · subst ew_57
              refine lv_tableIn (off := (72)) (tgt := 115) hx hb dX4_cls_43 (by decide +kernel) (by decide +kernel) (by decide +kernel) (by decide) ?_
              refine lv_iload hx hb dX4_cls_115 (lv_at hl 0 rfl) ?_
              exact mw_zret (v := 1) (ty := .boolean) hE hr hlocks hP hS dX4_cls_117 (rfl) (⟨_, rfl, hV, Or.inr ⟨3, by decide, rfl, by simp [clsf, bz, c_8, c_14, c_26, c_32]⟩⟩)
            · subst ew_57
              refine lv_tableIn (off := (75)) (tgt := 118) hx hb dX4_cls_43 (by decide +kernel) (by decide +kernel) (by decide +kernel) (by decide) ?_
              refine lv_iload_n hx hb dX4_cls_118 rfl (lv_at hl 3 rfl) ?_
              refine lv_bipush (v := nI 32) hx hb dX4_cls_119 (by decide) ?_
              refine lv_icmp_ne (tgt := 128) hx hb dX4_cls_121 (by decide) (fun c_121 => ?_) (fun c_121 => ?_)
              · refine lv_iconst (v := 0) hx hb dX4_cls_128 (by decide) ?_
                exact mw_zret (v := 0) (ty := .boolean) hE hr hlocks hP hS dX4_cls_129 (rfl) (⟨_, rfl, hV, Or.inr ⟨4, by decide, rfl, by simp [clsf, bz, c_8, c_14, c_26, c_32, c_121]⟩⟩)
              · refine lv_iconst (v := 1) hx hb dX4_cls_124 (by decide) ?_
                refine lv_goto (tgt := 129) hx hb dX4_cls_125 (by decide) ?_
                exact mw_zret (v := 1) (ty := .boolean) hE hr hlocks hP hS dX4_cls_129 (rfl) (⟨_, rfl, hV, Or.inr ⟨4, by decide, rfl, by simp [clsf, bz, c_8, c_14, c_26, c_32, c_121]⟩⟩)
            · subst ew_57
              refine lv_tableIn (off := (87)) (tgt := 130) hx hb dX4_cls_43 (by decide +kernel) (by decide +kernel) (by decide +kernel) (by decide) ?_
              refine lv_iload_n hx hb dX4_cls_130 rfl (lv_at hl 3 rfl) ?_
              refine lv_if_lt (tgt := 140) hx hb dX4_cls_131 (by decide) (fun c_131 => ?_) (fun c_131 => ?_)
              · refine lv_iload_n hx hb dX4_cls_140 rfl (lv_at hl 3 rfl) ?_
                refine lv_bipush (v := nI 127) hx hb dX4_cls_141 (by decide) ?_
                refine lv_icmp_ne (tgt := 150) hx hb dX4_cls_143 (by decide) (fun c_143 => ?_) (fun c_143 => ?_)
                · refine lv_iconst (v := 0) hx hb dX4_cls_150 (by decide) ?_
                  exact mw_zret (v := 0) (ty := .boolean) hE hr hlocks hP hS dX4_cls_151 (rfl) (⟨_, rfl, hV, Or.inr ⟨5, by decide, rfl, by simp [clsf, bz, c_8, c_14, c_26, c_32, c_131, c_143]⟩⟩)
                · refine lv_iconst (v := 1) hx hb dX4_cls_146 (by decide) ?_
                  refine lv_goto (tgt := 151) hx hb dX4_cls_147 (by decide) ?_
                  exact mw_zret (v := 1) (ty := .boolean) hE hr hlocks hP hS dX4_cls_151 (rfl) (⟨_, rfl, hV, Or.inr ⟨5, by decide, rfl, by simp [clsf, bz, c_8, c_14, c_26, c_32, c_131, c_143]⟩⟩)
              · refine lv_iload_n hx hb dX4_cls_134 rfl (lv_at hl 3 rfl) ?_
                refine lv_bipush (v := nI 32) hx hb dX4_cls_135 (by decide) ?_
                refine lv_icmp_lt (tgt := 146) hx hb dX4_cls_137 (by decide) (fun c_137 => ?_) (fun c_137 => ?_)
                · refine lv_iconst (v := 1) hx hb dX4_cls_146 (by decide) ?_
                  refine lv_goto (tgt := 151) hx hb dX4_cls_147 (by decide) ?_
                  exact mw_zret (v := 1) (ty := .boolean) hE hr hlocks hP hS dX4_cls_151 (rfl) (⟨_, rfl, hV, Or.inr ⟨5, by decide, rfl, by simp [clsf, bz, c_8, c_14, c_26, c_32, c_131, c_137]⟩⟩)
                · refine lv_iload_n hx hb dX4_cls_140 rfl (lv_at hl 3 rfl) ?_
                  refine lv_bipush (v := nI 127) hx hb dX4_cls_141 (by decide) ?_
                  refine lv_icmp_ne (tgt := 150) hx hb dX4_cls_143 (by decide) (fun c_143 => ?_) (fun c_143 => ?_)
                  · refine lv_iconst (v := 0) hx hb dX4_cls_150 (by decide) ?_
                    exact mw_zret (v := 0) (ty := .boolean) hE hr hlocks hP hS dX4_cls_151 (rfl) (⟨_, rfl, hV, Or.inr ⟨5, by decide, rfl, by simp [clsf, bz, c_8, c_14, c_26, c_32, c_131, c_137, c_143]⟩⟩)
                  · refine lv_iconst (v := 1) hx hb dX4_cls_146 (by decide) ?_
                    refine lv_goto (tgt := 151) hx hb dX4_cls_147 (by decide) ?_
                    exact mw_zret (v := 1) (ty := .boolean) hE hr hlocks hP hS dX4_cls_151 (rfl) (⟨_, rfl, hV, Or.inr ⟨5, by decide, rfl, by simp [clsf, bz, c_8, c_14, c_26, c_32, c_131, c_137, c_143]⟩⟩)
    · refine lv_iconst (v := 1) hx hb dX4_cls_17 (by decide) ?_
      refine lv_goto (tgt := 22) hx hb dX4_cls_18 (by decide) ?_
      refine lv_istore_n (lv' := [(3, .int 1), (0, .ref (ad 0)), (1, .int x), (2, .int y)]) hx hb dX4_cls_22 rfl hl (by decide) rfl (fun ls hl => ?_)
      refine lv_iload_n hx hb dX4_cls_23 rfl (lv_at hl 2 rfl) ?_
      refine lv_bipush (v := nI 97) hx hb dX4_cls_24 (by decide) ?_
      refine lv_icmp_lt (tgt := 39) hx hb dX4_cls_26 (by decide) (fun c_26 => ?_) (fun c_26 => ?_)
      · refine lv_iconst (v := 0) hx hb dX4_cls_39 (by decide) ?_
        refine lv_istore (lv' := [(4, .int 0), (3, .int 1), (0, .ref (ad 0)), (1, .int x), (2, .int y)]) hx hb dX4_cls_40 hl (by decide) rfl (fun ls hl => ?_)
        refine lv_iload_n hx hb dX4_cls_42 rfl (lv_at hl 4 rfl) ?_
        rcases sw_cases y 6 (by decide) with hw_68 | ⟨jw_68, hjw_68, ew_68⟩
        · refine lv_tableOut (tgt := 152) hx hb dX4_cls_43 (sw_out (by decide) hw_68) (by decide) ?_
          refine lv_iconst (v := 0) hx hb dX4_cls_152 (by decide) ?_
          exact mw_zret (v := 0) (ty := .boolean) hE hr hlocks hP hS dX4_cls_153 (rfl) (⟨_, rfl, hV, Or.inl ⟨hw_68, rfl⟩⟩)
        · rcases (show jw_68 = 0 ∨ jw_68 = 1 ∨ jw_68 = 2 ∨ jw_68 = 3 ∨ jw_68 = 4 ∨ jw_68 = 5 by omega) with rfl | rfl | rfl | rfl | rfl | rfl
          · subst ew_68
            refine lv_tableIn (off := (37)) (tgt := 80) hx hb dX4_cls_43 (by decide +kernel) (by decide +kernel) (by decide +kernel) (by decide) ?_
            refine lv_iload_n hx hb dX4_cls_80 rfl (lv_at hl 3 rfl) ?_
            refine lv_bipush (v := nI 48) hx hb dX4_cls_81 (by decide) ?_
            refine lv_icmp_lt (tgt := 96) hx hb dX4_cls_83 (by decide) (fun c_83 => ?_) (fun c_83 => ?_)
            · refine lv_iconst (v := 0) hx hb dX4_cls_96 (by decide) ?_
              exact mw_zret (v := 0) (ty := .boolean) hE hr hlocks hP hS dX4_cls_97 (rfl) (⟨_, rfl, hV, Or.inr ⟨0, by decide, rfl, by simp [clsf, bz, c_8, c_14, c_26, c_83]⟩⟩)
            · refine lv_iload_n hx hb dX4_cls_86 rfl (lv_at hl 3 rfl) ?_
              refine lv_bipush (v := nI 57) hx hb dX4_cls_87 (by decide) ?_
              refine lv_icmp_gt (tgt := 96) hx hb dX4_cls_89 (by decide) (fun c_89 => ?_) (fun c_89 => ?_)
              · refine lv_iconst (v := 0) hx hb dX4_cls_96 (by decide) ?_
                exact mw_zret (v := 0) (ty := .boolean) hE hr hlocks hP hS dX4_cls_97 (rfl) (⟨_, rfl, hV, Or.inr ⟨0, by decide, rfl, by simp [clsf, bz, c_8, c_14, c_26, c_83, c_89]⟩⟩)
              · refine lv_iconst (v := 1) hx hb dX4_cls_92 (by decide) ?_
                refine lv_goto (tgt := 97) hx hb dX4_cls_93 (by decide) ?_
                exact mw_zret (v := 1) (ty := .boolean) hE hr hlocks hP hS dX4_cls_97 (rfl) (⟨_, rfl, hV, Or.inr ⟨0, by decide, rfl, by simp [clsf, bz, c_8, c_14, c_26, c_83, c_89]⟩⟩)
          · subst ew_68
            refine lv_tableIn (off := (55)) (tgt := 98) hx hb dX4_cls_43 (by decide +kernel) (by decide +kernel) (by decide +kernel) (by decide) ?_
            refine lv_iload_n hx hb dX4_cls_98 rfl (lv_at hl 1 rfl) ?_
            refine lv_if_ne (tgt := 107) hx hb dX4_cls_99 (by decide) (fun _ => ?_) (fun c9 => absurd c9 (by decide))
            refine lv_iconst (v := 1) hx hb dX4_cls_107 (by decide) ?_
            refine lv_goto (tgt := 112) hx hb dX4_cls_108 (by decide) ?_
            exact mw_zret (v := 1) (ty := .boolean) hE hr hlocks hP hS dX4_cls_112 (rfl) (⟨_, rfl, hV, Or.inr ⟨1, by decide, rfl, by simp [clsf, bz, c_8, c_14, c_26]⟩⟩)
          · subst ew_68
            refine lv_tableIn (off := (70)) (tgt := 113) hx hb dX4_cls_43 (by decide +kernel) (by decide +kernel) (by decide +kernel) (by decide) ?_
            refine lv_iload_n hx hb dX4_cls_113 rfl (lv_at hl 1 rfl) ?_
            exact mw_zret (v := 1) (ty := .boolean) hE hr hlocks hP hS dX4_cls_114 (rfl) (⟨_, rfl, hV, Or.inr ⟨2, by decide, rfl, by simp [clsf, bz, c_8, c_14, c_26]⟩⟩)
          · subst ew_68
            refine lv_tableIn (off := (72)) (tgt := 115) hx hb dX4_cls_43 (by decide +kernel) (by decide +kernel) (by decide +kernel) (by decide) ?_
            refine lv_iload hx hb dX4_cls_115 (lv_at hl 0 rfl) ?_
            exact mw_zret (v := 0) (ty := .boolean) hE hr hlocks hP hS dX4_cls_117 (rfl) (⟨_, rfl, hV, Or.inr ⟨3, by decide, rfl, by simp [clsf, bz, c_8, c_14, c_26]⟩⟩)
          · subst ew_68
            refine lv_tableIn (off := (75)) (tgt := 118) hx hb dX4_cls_43 (by decide +kernel) (by decide +kernel) (by decide +kernel) (by decide) ?_
            refine lv_iload_n hx hb dX4_cls_118 rfl (lv_at hl 3 rfl) ?_
            refine lv_bipush (v := nI 32) hx hb dX4_cls_119 (by decide) ?_
            refine lv_icmp_ne (tgt := 128) hx hb dX4_cls_121 (by decide) (fun c_121 => ?_) (fun c_121 => ?_)
            · refine lv_iconst (v := 0) hx hb dX4_cls_128 (by decide) ?_
              exact mw_zret (v := 0) (ty := .boolean) hE hr hlocks hP hS dX4_cls_129 (rfl) (⟨_, rfl, hV, Or.inr ⟨4, by decide, rfl, by simp [clsf, bz, c_8, c_14, c_26, c_121]⟩⟩)
            · refine lv_iconst (v := 1) hx hb dX4_cls_124 (by decide) ?_
              refine lv_goto (tgt := 129) hx hb dX4_cls_125 (by decide) ?_
              exact mw_zret (v := 1) (ty := .boolean) hE hr hlocks hP hS dX4_cls_129 (rfl) (⟨_, rfl, hV, Or.inr ⟨4, by decide, rfl, by simp [clsf, bz, c_8, c_14, c_26, c_121]⟩⟩)
          · subst ew_68
            refine lv_tableIn (off := (87)) (tgt := 130) hx hb dX4_cls_43 (by decide +kernel) (by decide +kernel) (by decide +kernel) (by decide) ?_
            refine lv_iload_n hx hb dX4_cls_130 rfl (lv_at hl 3 rfl) ?_
            refine lv_if_lt (tgt := 140) hx hb dX4_cls_131 (by decide) (fun c_131 => ?_) (fun c_131 => ?_)
            · refine lv_iload_n hx hb dX4_cls_140 rfl (lv_at hl 3 rfl) ?_
              refine lv_bipush (v := nI 127) hx hb dX4_cls_141 (by decide) ?_
              refine lv_icmp_ne (tgt := 150) hx hb dX4_cls_143 (by decide) (fun c_143 => ?_) (fun c_143 => ?_)
              · refine lv_iconst (v := 0) hx hb dX4_cls_150 (by decide) ?_
                exact mw_zret (v := 0) (ty := .boolean) hE hr hlocks hP hS dX4_cls_151 (rfl) (⟨_, rfl, hV, Or.inr ⟨5, by decide, rfl, by simp [clsf, bz, c_8, c_14, c_26, c_131, c_143]⟩⟩)
              · refine lv_iconst (v := 1) hx hb dX4_cls_146 (by decide) ?_
                refine lv_goto (tgt := 151) hx hb dX4_cls_147 (by decide) ?_
                exact mw_zret (v := 1) (ty := .boolean) hE hr hlocks hP hS dX4_cls_151 (rfl) (⟨_, rfl, hV, Or.inr ⟨5, by decide, rfl, by simp [clsf, bz, c_8, c_14, c_26, c_131, c_143]⟩⟩)
            · refine lv_iload_n hx hb dX4_cls_134 rfl (lv_at hl 3 rfl) ?_
              refine lv_bipush (v := nI 32) hx hb dX4_cls_135 (by decide) ?_
              refine lv_icmp_lt (tgt := 146) hx hb dX4_cls_137 (by decide) (fun c_137 => ?_) (fun c_137 => ?_)
              · refine lv_iconst (v := 1) hx hb dX4_cls_146 (by decide) ?_
                refine lv_goto (tgt := 151) hx hb dX4_cls_147 (by decide) ?_
                exact mw_zret (v := 1) (ty := .boolean) hE hr hlocks hP hS dX4_cls_151 (rfl) (⟨_, rfl, hV, Or.inr ⟨5, by decide, rfl, by simp [clsf, bz, c_8, c_14, c_26, c_131, c_137]⟩⟩)
              · refine lv_iload_n hx hb dX4_cls_140 rfl (lv_at hl 3 rfl) ?_
                refine lv_bipush (v := nI 127) hx hb dX4_cls_141 (by decide) ?_
                refine lv_icmp_ne (tgt := 150) hx hb dX4_cls_143 (by decide) (fun c_143 => ?_) (fun c_143 => ?_)
                · refine lv_iconst (v := 0) hx hb dX4_cls_150 (by decide) ?_
                  exact mw_zret (v := 0) (ty := .boolean) hE hr hlocks hP hS dX4_cls_151 (rfl) (⟨_, rfl, hV, Or.inr ⟨5, by decide, rfl, by simp [clsf, bz, c_8, c_14, c_26, c_131, c_137, c_143]⟩⟩)
                · refine lv_iconst (v := 1) hx hb dX4_cls_146 (by decide) ?_
                  refine lv_goto (tgt := 151) hx hb dX4_cls_147 (by decide) ?_
                  exact mw_zret (v := 1) (ty := .boolean) hE hr hlocks hP hS dX4_cls_151 (rfl) (⟨_, rfl, hV, Or.inr ⟨5, by decide, rfl, by simp [clsf, bz, c_8, c_14, c_26, c_131, c_137, c_143]⟩⟩)
      · refine lv_iload_n hx hb dX4_cls_29 rfl (lv_at hl 2 rfl) ?_
        refine lv_bipush (v := nI 122) hx hb dX4_cls_30 (by decide) ?_
        refine lv_icmp_gt (tgt := 39) hx hb dX4_cls_32 (by decide) (fun c_32 => ?_) (fun c_32 => ?_)
        · refine lv_iconst (v := 0) hx hb dX4_cls_39 (by decide) ?_
          refine lv_istore (lv' := [(4, .int 0), (3, .int 1), (0, .ref (ad 0)), (1, .int x), (2, .int y)]) hx hb dX4_cls_40 hl (by decide) rfl (fun ls hl => ?_)
          refine lv_iload_n hx hb dX4_cls_42 rfl (lv_at hl 4 rfl) ?_
          rcases sw_cases y 6 (by decide) with hw_78 | ⟨jw_78, hjw_78, ew_78⟩
          · refine lv_tableOut (tgt := 152) hx hb dX4_cls_43 (sw_out (by decide) hw_78) (by decide) ?_
            refine lv_iconst (v := 0) hx hb dX4_cls_152 (by decide) ?_
            exact mw_zret (v := 0) (ty := .boolean) hE hr hlocks hP hS dX4_cls_153 (rfl) (⟨_, rfl, hV, Or.inl ⟨hw_78, rfl⟩⟩)
          · rcases (show jw_78 = 0 ∨ jw_78 = 1 ∨ jw_78 = 2 ∨ jw_78 = 3 ∨ jw_78 = 4 ∨ jw_78 = 5 by omega) with rfl | rfl | rfl | rfl | rfl | rfl
            · subst ew_78
              refine lv_tableIn (off := (37)) (tgt := 80) hx hb dX4_cls_43 (by decide +kernel) (by decide +kernel) (by decide +kernel) (by decide) ?_
              refine lv_iload_n hx hb dX4_cls_80 rfl (lv_at hl 3 rfl) ?_
              refine lv_bipush (v := nI 48) hx hb dX4_cls_81 (by decide) ?_
              refine lv_icmp_lt (tgt := 96) hx hb dX4_cls_83 (by decide) (fun c_83 => ?_) (fun c_83 => ?_)
              · refine lv_iconst (v := 0) hx hb dX4_cls_96 (by decide) ?_
                exact mw_zret (v := 0) (ty := .boolean) hE hr hlocks hP hS dX4_cls_97 (rfl) (⟨_, rfl, hV, Or.inr ⟨0, by decide, rfl, by simp [clsf, bz, c_8, c_14, c_26, c_32, c_83]⟩⟩)
              · refine lv_iload_n hx hb dX4_cls_86 rfl (lv_at hl 3 rfl) ?_
                refine lv_bipush (v := nI 57) hx hb dX4_cls_87 (by decide) ?_
                refine lv_icmp_gt (tgt := 96) hx hb dX4_cls_89 (by decide) (fun c_89 => ?_) (fun c_89 => ?_)
                · refine lv_iconst (v := 0) hx hb dX4_cls_96 (by decide) ?_
                  exact mw_zret (v := 0) (ty := .boolean) hE hr hlocks hP hS dX4_cls_97 (rfl) (⟨_, rfl, hV, Or.inr ⟨0, by decide, rfl, by simp [clsf, bz, c_8, c_14, c_26, c_32, c_83, c_89]⟩⟩)
                · refine lv_iconst (v := 1) hx hb dX4_cls_92 (by decide) ?_
                  refine lv_goto (tgt := 97) hx hb dX4_cls_93 (by decide) ?_
                  exact mw_zret (v := 1) (ty := .boolean) hE hr hlocks hP hS dX4_cls_97 (rfl) (⟨_, rfl, hV, Or.inr ⟨0, by decide, rfl, by simp [clsf, bz, c_8, c_14, c_26, c_32, c_83, c_89]⟩⟩)
            · subst ew_78
              refine lv_tableIn (off := (55)) (tgt := 98) hx hb dX4_cls_43 (by decide +kernel) (by decide +kernel) (by decide +kernel) (by decide) ?_
              refine lv_iload_n hx hb dX4_cls_98 rfl (lv_at hl 1 rfl) ?_
              refine lv_if_ne (tgt := 107) hx hb dX4_cls_99 (by decide) (fun _ => ?_) (fun c9 => absurd c9 (by decide))
              refine lv_iconst (v := 1) hx hb dX4_cls_107 (by decide) ?_
              refine lv_goto (tgt := 112) hx hb dX4_cls_108 (by decide) ?_
              exact mw_zret (v := 1) (ty := .boolean) hE hr hlocks hP hS dX4_cls_112 (rfl) (⟨_, rfl, hV, Or.inr ⟨1, by decide, rfl, by simp [clsf, bz, c_8, c_14, c_26, c_32]⟩⟩)
            · subst ew_78
              refine lv_tableIn (off := (70)) (tgt := 113) hx hb dX4_cls_43 (by decide +kernel) (by decide +kernel) (by decide +kernel) (by decide) ?_
              refine lv_iload_n hx hb dX4_cls_113 rfl (lv_at hl 1 rfl) ?_
              exact mw_zret (v := 1) (ty := .boolean) hE hr hlocks hP hS dX4_cls_114 (rfl) (⟨_, rfl, hV, Or.inr ⟨2, by decide, rfl, by simp [clsf, bz, c_8, c_14, c_26, c_32]⟩⟩)
            · subst ew_78
              refine lv_tableIn (off := (72)) (tgt := 115) hx hb dX4_cls_43 (by decide +kernel) (by decide +kernel) (by decide +kernel) (by decide) ?_
              refine lv_iload hx hb dX4_cls_115 (lv_at hl 0 rfl) ?_
              exact mw_zret (v := 0) (ty := .boolean) hE hr hlocks hP hS dX4_cls_117 (rfl) (⟨_, rfl, hV, Or.inr ⟨3, by decide, rfl, by simp [clsf, bz, c_8, c_14, c_26, c_32]⟩⟩)
            · subst ew_78
              refine lv_tableIn (off := (75)) (tgt := 118) hx hb dX4_cls_43 (by decide +kernel) (by decide +kernel) (by decide +kernel) (by decide) ?_
              refine lv_iload_n hx hb dX4_cls_118 rfl (lv_at hl 3 rfl) ?_
              refine lv_bipush (v := nI 32) hx hb dX4_cls_119 (by decide) ?_
              refine lv_icmp_ne (tgt := 128) hx hb dX4_cls_121 (by decide) (fun c_121 => ?_) (fun c_121 => ?_)
              · refine lv_iconst (v := 0) hx hb dX4_cls_128 (by decide) ?_
                exact mw_zret (v := 0) (ty := .boolean) hE hr hlocks hP hS dX4_cls_129 (rfl) (⟨_, rfl, hV, Or.inr ⟨4, by decide, rfl, by simp [clsf, bz, c_8, c_14, c_26, c_32, c_121]⟩⟩)
              · refine lv_iconst (v := 1) hx hb dX4_cls_124 (by decide) ?_
                refine lv_goto (tgt := 129) hx hb dX4_cls_125 (by decide) ?_
                exact mw_zret (v := 1) (ty := .boolean) hE hr hlocks hP hS dX4_cls_129 (rfl) (⟨_, rfl, hV, Or.inr ⟨4, by decide, rfl, by simp [clsf, bz, c_8, c_14, c_26, c_32, c_121]⟩⟩)
            · subst ew_78
              refine lv_tableIn (off := (87)) (tgt := 130) hx hb dX4_cls_43 (by decide +kernel) (by decide +kernel) (by decide +kernel) (by decide) ?_
              refine lv_iload_n hx hb dX4_cls_130 rfl (lv_at hl 3 rfl) ?_
              refine lv_if_lt (tgt := 140) hx hb dX4_cls_131 (by decide) (fun c_131 => ?_) (fun c_131 => ?_)
              · refine lv_iload_n hx hb dX4_cls_140 rfl (lv_at hl 3 rfl) ?_
                refine lv_bipush (v := nI 127) hx hb dX4_cls_141 (by decide) ?_
                refine lv_icmp_ne (tgt := 150) hx hb dX4_cls_143 (by decide) (fun c_143 => ?_) (fun c_143 => ?_)
                · refine lv_iconst (v := 0) hx hb dX4_cls_150 (by decide) ?_
                  exact mw_zret (v := 0) (ty := .boolean) hE hr hlocks hP hS dX4_cls_151 (rfl) (⟨_, rfl, hV, Or.inr ⟨5, by decide, rfl, by simp [clsf, bz, c_8, c_14, c_26, c_32, c_131, c_143]⟩⟩)
                · refine lv_iconst (v := 1) hx hb dX4_cls_146 (by decide) ?_
                  refine lv_goto (tgt := 151) hx hb dX4_cls_147 (by decide) ?_
                  exact mw_zret (v := 1) (ty := .boolean) hE hr hlocks hP hS dX4_cls_151 (rfl) (⟨_, rfl, hV, Or.inr ⟨5, by decide, rfl, by simp [clsf, bz, c_8, c_14, c_26, c_32, c_131, c_143]⟩⟩)
              · refine lv_iload_n hx hb dX4_cls_134 rfl (lv_at hl 3 rfl) ?_
                refine lv_bipush (v := nI 32) hx hb dX4_cls_135 (by decide) ?_
                refine lv_icmp_lt (tgt := 146) hx hb dX4_cls_137 (by decide) (fun c_137 => ?_) (fun c_137 => ?_)
                · refine lv_iconst (v := 1) hx hb dX4_cls_146 (by decide) ?_
                  refine lv_goto (tgt := 151) hx hb dX4_cls_147 (by decide) ?_
                  exact mw_zret (v := 1) (ty := .boolean) hE hr hlocks hP hS dX4_cls_151 (rfl) (⟨_, rfl, hV, Or.inr ⟨5, by decide, rfl, by simp [clsf, bz, c_8, c_14, c_26, c_32, c_131, c_137]⟩⟩)
                · refine lv_iload_n hx hb dX4_cls_140 rfl (lv_at hl 3 rfl) ?_
                  refine lv_bipush (v := nI 127) hx hb dX4_cls_141 (by decide) ?_
                  refine lv_icmp_ne (tgt := 150) hx hb dX4_cls_143 (by decide) (fun c_143 => ?_) (fun c_143 => ?_)
                  · refine lv_iconst (v := 0) hx hb dX4_cls_150 (by decide) ?_
                    exact mw_zret (v := 0) (ty := .boolean) hE hr hlocks hP hS dX4_cls_151 (rfl) (⟨_, rfl, hV, Or.inr ⟨5, by decide, rfl, by simp [clsf, bz, c_8, c_14, c_26, c_32, c_131, c_137, c_143]⟩⟩)
                  · refine lv_iconst (v := 1) hx hb dX4_cls_146 (by decide) ?_
                    refine lv_goto (tgt := 151) hx hb dX4_cls_147 (by decide) ?_
                    exact mw_zret (v := 1) (ty := .boolean) hE hr hlocks hP hS dX4_cls_151 (rfl) (⟨_, rfl, hV, Or.inr ⟨5, by decide, rfl, by simp [clsf, bz, c_8, c_14, c_26, c_32, c_131, c_137, c_143]⟩⟩)
        · refine lv_iconst (v := 1) hx hb dX4_cls_35 (by decide) ?_
          refine lv_goto (tgt := 40) hx hb dX4_cls_36 (by decide) ?_
          refine lv_istore (lv' := [(4, .int 1), (3, .int 1), (0, .ref (ad 0)), (1, .int x), (2, .int y)]) hx hb dX4_cls_40 hl (by decide) rfl (fun ls hl => ?_)
          refine lv_iload_n hx hb dX4_cls_42 rfl (lv_at hl 4 rfl) ?_
          rcases sw_cases y 6 (by decide) with hw_87 | ⟨jw_87, hjw_87, ew_87⟩
          · refine lv_tableOut (tgt := 152) hx hb dX4_cls_43 (sw_out (by decide) hw_87) (by decide) ?_
            refine lv_iconst (v := 0) hx hb dX4_cls_152 (by decide) ?_
            exact mw_zret (v := 0) (ty := .boolean) hE hr hlocks hP hS dX4_cls_153 (rfl) (⟨_, rfl, hV, Or.inl ⟨hw_87, rfl⟩⟩)
          · rcases (show jw_87 = 0 ∨ jw_87 = 1 ∨ jw_87 = 2 ∨ jw_87 = 3 ∨ jw_87 = 4 ∨ jw_87 = 5 by omega) with rfl | rfl | rfl | rfl | rfl | rfl
            · subst ew_87
              refine lv_tableIn (off := (37)) (tgt := 80) hx hb dX4_cls_43 (by decide +kernel) (by decide +kernel) (by decide +kernel) (by decide) ?_
              refine lv_iload_n hx hb dX4_cls_80 rfl (lv_at hl 3 rfl) ?_
              refine lv_bipush (v := nI 48) hx hb dX4_cls_81 (by decide) ?_
              refine lv_icmp_lt (tgt := 96) hx hb dX4_cls_83 (by decide) (fun c_83 => ?_) (fun c_83 => ?_)
              · refine lv_iconst (v := 0) hx hb dX4_cls_96 (by decide) ?_
                exact mw_zret (v := 0) (ty := .boolean) hE hr hlocks hP hS dX4_cls_97 (rfl) (⟨_, rfl, hV, Or.inr ⟨0, by decide, rfl, by simp [clsf, bz, c_8, c_14, c_26, c_32, c_83]⟩⟩)
              · refine lv_iload_n hx hb dX4_cls_86 rfl (lv_at hl 3 rfl) ?_
                refine lv_bipush (v := nI 57) hx hb dX4_cls_87 (by decide) ?_
                refine lv_icmp_gt (tgt := 96) hx hb dX4_cls_89 (by decide) (fun c_89 => ?_) (fun c_89 => ?_)
                · refine lv_iconst (v := 0) hx hb dX4_cls_96 (by decide) ?_
                  exact mw_zret (v := 0) (ty := .boolean) hE hr hlocks hP hS dX4_cls_97 (rfl) (⟨_, rfl, hV, Or.inr ⟨0, by decide, rfl, by simp [clsf, bz, c_8, c_14, c_26, c_32, c_83, c_89]⟩⟩)
                · refine lv_iconst (v := 1) hx hb dX4_cls_92 (by decide) ?_
                  refine lv_goto (tgt := 97) hx hb dX4_cls_93 (by decide) ?_
                  exact mw_zret (v := 1) (ty := .boolean) hE hr hlocks hP hS dX4_cls_97 (rfl) (⟨_, rfl, hV, Or.inr ⟨0, by decide, rfl, by simp [clsf, bz, c_8, c_14, c_26, c_32, c_83, c_89]⟩⟩)
            · subst ew_87
              refine lv_tableIn (off := (55)) (tgt := 98) hx hb dX4_cls_43 (by decide +kernel) (by decide +kernel) (by decide +kernel) (by decide) ?_
              refine lv_iload_n hx hb dX4_cls_98 rfl (lv_at hl 1 rfl) ?_
              refine lv_if_ne (tgt := 107) hx hb dX4_cls_99 (by decide) (fun _ => ?_) (fun c9 => absurd c9 (by decide))
              refine lv_iconst (v := 1) hx hb dX4_cls_107 (by decide) ?_
              refine lv_goto (tgt := 112) hx hb dX4_cls_108 (by decide) ?_
              exact mw_zret (v := 1) (ty := .boolean) hE hr hlocks hP hS dX4_cls_112 (rfl) (⟨_, rfl, hV, Or.inr ⟨1, by decide, rfl, by simp [clsf, bz, c_8, c_14, c_26, c_32]⟩⟩)
            · subst ew_87
              refine lv_tableIn (off := (70)) (tgt := 113) hx hb dX4_cls_43 (by decide +kernel) (by decide +kernel) (by decide +kernel) (by decide) ?_
              refine lv_iload_n hx hb dX4_cls_113 rfl (lv_at hl 1 rfl) ?_
              exact mw_zret (v := 1) (ty := .boolean) hE hr hlocks hP hS dX4_cls_114 (rfl) (⟨_, rfl, hV, Or.inr ⟨2, by decide, rfl, by simp [clsf, bz, c_8, c_14, c_26, c_32]⟩⟩)
            · subst ew_87
              refine lv_tableIn (off := (72)) (tgt := 115) hx hb dX4_cls_43 (by decide +kernel) (by decide +kernel) (by decide +kernel) (by decide) ?_
              refine lv_iload hx hb dX4_cls_115 (lv_at hl 0 rfl) ?_
              exact mw_zret (v := 1) (ty := .boolean) hE hr hlocks hP hS dX4_cls_117 (rfl) (⟨_, rfl, hV, Or.inr ⟨3, by decide, rfl, by simp [clsf, bz, c_8, c_14, c_26, c_32]⟩⟩)
            · subst ew_87
              refine lv_tableIn (off := (75)) (tgt := 118) hx hb dX4_cls_43 (by decide +kernel) (by decide +kernel) (by decide +kernel) (by decide) ?_
              refine lv_iload_n hx hb dX4_cls_118 rfl (lv_at hl 3 rfl) ?_
              refine lv_bipush (v := nI 32) hx hb dX4_cls_119 (by decide) ?_
              refine lv_icmp_ne (tgt := 128) hx hb dX4_cls_121 (by decide) (fun c_121 => ?_) (fun c_121 => ?_)
              · refine lv_iconst (v := 0) hx hb dX4_cls_128 (by decide) ?_
                exact mw_zret (v := 0) (ty := .boolean) hE hr hlocks hP hS dX4_cls_129 (rfl) (⟨_, rfl, hV, Or.inr ⟨4, by decide, rfl, by simp [clsf, bz, c_8, c_14, c_26, c_32, c_121]⟩⟩)
              · refine lv_iconst (v := 1) hx hb dX4_cls_124 (by decide) ?_
                refine lv_goto (tgt := 129) hx hb dX4_cls_125 (by decide) ?_
                exact mw_zret (v := 1) (ty := .boolean) hE hr hlocks hP hS dX4_cls_129 (rfl) (⟨_, rfl, hV, Or.inr ⟨4, by decide, rfl, by simp [clsf, bz, c_8, c_14, c_26, c_32, c_121]⟩⟩)
            · subst ew_87
              refine lv_tableIn (off := (87)) (tgt := 130) hx hb dX4_cls_43 (by decide +kernel) (by decide +kernel) (by decide +kernel) (by decide) ?_
              refine lv_iload_n hx hb dX4_cls_130 rfl (lv_at hl 3 rfl) ?_
              refine lv_if_lt (tgt := 140) hx hb dX4_cls_131 (by decide) (fun c_131 => ?_) (fun c_131 => ?_)
              · refine lv_iload_n hx hb dX4_cls_140 rfl (lv_at hl 3 rfl) ?_
                refine lv_bipush (v := nI 127) hx hb dX4_cls_141 (by decide) ?_
                refine lv_icmp_ne (tgt := 150) hx hb dX4_cls_143 (by decide) (fun c_143 => ?_) (fun c_143 => ?_)
                · refine lv_iconst (v := 0) hx hb dX4_cls_150 (by decide) ?_
                  exact mw_zret (v := 0) (ty := .boolean) hE hr hlocks hP hS dX4_cls_151 (rfl) (⟨_, rfl, hV, Or.inr ⟨5, by decide, rfl, by simp [clsf, bz, c_8, c_14, c_26, c_32, c_131, c_143]⟩⟩)
                · refine lv_iconst (v := 1) hx hb dX4_cls_146 (by decide) ?_
                  refine lv_goto (tgt := 151) hx hb dX4_cls_147 (by decide) ?_
                  exact mw_zret (v := 1) (ty := .boolean) hE hr hlocks hP hS dX4_cls_151 (rfl) (⟨_, rfl, hV, Or.inr ⟨5, by decide, rfl, by simp [clsf, bz, c_8, c_14, c_26, c_32, c_131, c_143]⟩⟩)
              · refine lv_iload_n hx hb dX4_cls_134 rfl (lv_at hl 3 rfl) ?_
                refine lv_bipush (v := nI 32) hx hb dX4_cls_135 (by decide) ?_
                refine lv_icmp_lt (tgt := 146) hx hb dX4_cls_137 (by decide) (fun c_137 => ?_) (fun c_137 => ?_)
                · refine lv_iconst (v := 1) hx hb dX4_cls_146 (by decide) ?_
                  refine lv_goto (tgt := 151) hx hb dX4_cls_147 (by decide) ?_
                  exact mw_zret (v := 1) (ty := .boolean) hE hr hlocks hP hS dX4_cls_151 (rfl) (⟨_, rfl, hV, Or.inr ⟨5, by decide, rfl, by simp [clsf, bz, c_8, c_14, c_26, c_32, c_131, c_137]⟩⟩)
                · refine lv_iload_n hx hb dX4_cls_140 rfl (lv_at hl 3 rfl) ?_
                  refine lv_bipush (v := nI 127) hx hb dX4_cls_141 (by decide) ?_
                  refine lv_icmp_ne (tgt := 150) hx hb dX4_cls_143 (by decide) (fun c_143 => ?_) (fun c_143 => ?_)
                  · refine lv_iconst (v := 0) hx hb dX4_cls_150 (by decide) ?_
                    exact mw_zret (v := 0) (ty := .boolean) hE hr hlocks hP hS dX4_cls_151 (rfl) (⟨_, rfl, hV, Or.inr ⟨5, by decide, rfl, by simp [clsf, bz, c_8, c_14, c_26, c_32, c_131, c_137, c_143]⟩⟩)
                  · refine lv_iconst (v := 1) hx hb dX4_cls_146 (by decide) ?_
                    refine lv_goto (tgt := 151) hx hb dX4_cls_147 (by decide) ?_
                    exact mw_zret (v := 1) (ty := .boolean) hE hr hlocks hP hS dX4_cls_151 (rfl) (⟨_, rfl, hV, Or.inr ⟨5, by decide, rfl, by simp [clsf, bz, c_8, c_14, c_26, c_32, c_131, c_137, c_143]⟩⟩)

set_option maxRecDepth 20000 in
theorem mX4_print_f34 : Cond.fieldLink RX4 34 "CodePagesModel" "code" "I" ∈ wsX4_print := by decide +kernel
set_option maxRecDepth 20000 in
theorem iX4_print_X4 : ∀ w ∈ u_ws RX4 TX4 14, w ∈ wsX4_print := by decide +kernel
set_option maxHeartbeats 4000000 in
set_option maxRecDepth 100000 in
theorem tX4_print (l : Launch) (D : va_G) (k : Nat → ClassId) (M : mw) (sz : Nat) (ad : Nat → Nat) (v : Nat → Int32) (g : Nat → Nat → Int32) (n : Nat → Nat) (x y : Int32) (hN : mo_N ad) (hV : mo_V v n) (hn9 : mo_B n) (hM : M = mo_M (k 0) ad v g) : Met l yX4_print wsX4_print ({ frames := 1, cells := 0, slots := 0, locals := 20 }) (va_Pc [.ref (ad 0), .int x, .int y] (mw_U D vwCl (TY k) M sz)) (va_Qi (fun r M1 => ∃ v1, M1 = mo_M (k 0) ad v1 g ∧ mo_V v1 n ∧ R_print x y r) (mw_B D vwCl M sz) (mw_A M sz)) 0 0 (mw_A M sz) := by
  refine mw_met (cc := cX4_print) (maxL := 4) (ret := (some .byte)) (lv := [(0, .ref (ad 0)), (1, .int x), (2, .int y)]) (by decide) rfl (Nat.le_of_ble_eq_true rfl) rfl ?_
  intro p e s m below meth c ls hE hr hlocks hin hml hsz hP hS hl
  subst hsz
  have hx := hE.1
  have hb := hE.2.1
  have hA : ∀ q, s.heap.size ≤ q → mw_A M s.heap.size q := fun q h => Or.inr h
  have hP : mw_Q (mw_A M s.heap.size) D vwCl (mo_M (k 0) ad v g) s.heap := by rw [← hM]; exact hP
  obtain ⟨hb0, hb1, hb2, hb3⟩ := hn9
  refine lv_aload_n hx hb dX4_print_0 rfl (lv_at hl 0 rfl) ?_
  refine lv_iconst (v := 0) hx hb dX4_print_1 (by decide) ?_
  refine mo_put hE iX4_print_X4 hP hS 0 (by decide) mX4_print_f34 rfl rfl (by decide +kernel) rfl dX4_print_2 (fun H locs hP hS => ?_)
  refine lv_iload_n hx hb dX4_print_5 rfl (lv_at hl 1 rfl) ?_
  refine mw_calli hP hS hA (va_runS (As := [.int x]) (rest := []) ⟨hx, hb, hml, hE.2.2.2.1, hE.2.2.1⟩ (tX4_isCode l D k _ _ x) (va_cwS 1 hE.2.2.1 gX4_print_X4_isCode rfl rfl rfl (by decide +kernel) ⟨(Nat.le_of_ble_eq_true rfl), (Nat.le_of_ble_eq_true rfl)⟩) (mw_preS hE hP [.int x]) rfl rfl hl.1 rfl (lv_room (Nat.le_of_ble_eq_true rfl)) dX4_print_6 ⟨(Nat.le_of_ble_eq_true rfl), (Nat.le_of_ble_eq_true rfl)⟩) (fun r_1 M1 H locs hw hP hS => ?_)
  obtain ⟨rfl, hw⟩ := hw
  rcases hw with ⟨hq_2, rfl⟩ | ⟨hq_2, rfl⟩
  · obtain ⟨j, hj, rfl⟩ := vp_in_of hq_2 (by omega)
    refine lv_if_ne (tgt := 14) hx hb dX4_print_9 (by decide) (fun _ => ?_) (fun c9 => absurd c9 (by decide))
    refine lv_iload_n hx hb dX4_print_14 rfl (lv_at hl 1 rfl) ?_
    refine lv_bipush (v := nI 16) hx hb dX4_print_15 (by decide) ?_
    refine lv_irem hx hb dX4_print_17 (by decide) ?_
    refine rw_i (v := nI (j % 16)) (pk_rem (by omega) (by decide) (by decide)) ?_
    refine lv_istore_n (lv' := [(3, .int (nI (j % 16))), (0, .ref (ad 0)), (1, .int (nI j)), (2, .int y)]) hx hb dX4_print_18 rfl hl (by decide) rfl (fun ls hl => ?_)
    refine lv_iload_n hx hb dX4_print_19 rfl (lv_at hl 3 rfl) ?_
    rcases sw_cases y 3 (by decide) with hw_4 | ⟨jw_4, hjw_4, ew_4⟩
    · refine lv_tableOut (tgt := 93) hx hb dX4_print_20 (sw_out (by decide) hw_4) (by decide) ?_
      refine lv_iconst (v := 0) hx hb dX4_print_93 (by decide) ?_
      exact mw_zret (v := 0) (ty := .byte) hE hr hlocks hP hS dX4_print_94 (rfl) (⟨_, rfl, hV, Or.inr ⟨j, hj, rfl, Or.inl ⟨hw_4, rfl⟩⟩⟩)
    · rcases (show jw_4 = 0 ∨ jw_4 = 1 ∨ jw_4 = 2 by omega) with rfl | rfl | rfl
      · subst ew_4
        refine lv_tableIn (off := (28)) (tgt := 48) hx hb dX4_print_20 (by decide +kernel) (by decide +kernel) (by decide +kernel) (by decide) ?_
        refine lv_iload_n hx hb dX4_print_48 rfl (lv_at hl 2 rfl) ?_
        refine lv_bipush (v := nI 16) hx hb dX4_print_49 (by decide) ?_
        refine lv_idiv hx hb dX4_print_51 (by decide) ?_
        refine rw_i (v := nI (j / 16)) (pk_div (by omega) (by decide) (by decide)) ?_
        refine mw_calli hP hS hA (va_runS (As := [.int (nI (j / 16))]) (rest := []) ⟨hx, hb, hml, hE.2.2.2.1, hE.2.2.1⟩ (tX4_half l D k _ _ (j / 16) (by omega)) (va_cwS 1 hE.2.2.1 gX4_print_X4_half rfl rfl rfl (by decide +kernel) ⟨(Nat.le_of_ble_eq_true rfl), (Nat.le_of_ble_eq_true rfl)⟩) (mw_preS hE hP [.int (nI (j / 16))]) rfl rfl hl.1 rfl (lv_room (Nat.le_of_ble_eq_true rfl)) dX4_print_52 ⟨(Nat.le_of_ble_eq_true rfl), (Nat.le_of_ble_eq_true rfl)⟩) (fun r_5 M1 H locs hw hP hS => ?_)
        obtain ⟨rfl, rfl⟩ := hw
        exact mw_zret (v := nI (hexn (j / 16))) (ty := .byte) hE hr hlocks hP hS dX4_print_55 (byte_nar (hexn_lt (by omega))) (⟨_, rfl, hV, Or.inr ⟨j, hj, rfl, Or.inr (Or.inl ⟨rfl, rfl⟩)⟩⟩)
      · subst ew_4
        refine lv_tableIn (off := (36)) (tgt := 56) hx hb dX4_print_20 (by decide +kernel) (by decide +kernel) (by decide +kernel) (by decide) ?_
        refine lv_iload_n hx hb dX4_print_56 rfl (lv_at hl 0 rfl) ?_
        refine mw_calli hP hS hA (va_runS (As := [.int (nI (j % 16))]) (rest := []) ⟨hx, hb, hml, hE.2.2.2.1, hE.2.2.1⟩ (tX4_half l D k _ _ (j % 16) (by omega)) (va_cwS 1 hE.2.2.1 gX4_print_X4_half rfl rfl rfl (by decide +kernel) ⟨(Nat.le_of_ble_eq_true rfl), (Nat.le_of_ble_eq_true rfl)⟩) (mw_preS hE hP [.int (nI (j % 16))]) rfl rfl hl.1 rfl (lv_room (Nat.le_of_ble_eq_true rfl)) dX4_print_57 ⟨(Nat.le_of_ble_eq_true rfl), (Nat.le_of_ble_eq_true rfl)⟩) (fun r_6 M1 H locs hw hP hS => ?_)
        obtain ⟨rfl, rfl⟩ := hw
        exact mw_zret (v := nI (hexn (j % 16))) (ty := .byte) hE hr hlocks hP hS dX4_print_60 (byte_nar (hexn_lt (by omega))) (⟨_, rfl, hV, Or.inr ⟨j, hj, rfl, Or.inr (Or.inr (Or.inl ⟨rfl, rfl⟩))⟩⟩)
      · subst ew_4
        refine lv_tableIn (off := (41)) (tgt := 61) hx hb dX4_print_20 (by decide +kernel) (by decide +kernel) (by decide +kernel) (by decide) ?_
        refine lv_iload_n hx hb dX4_print_61 rfl (lv_at hl 0 rfl) ?_
        refine lv_bipush (v := nI 11) hx hb dX4_print_62 (by decide) ?_
        refine lv_icmp_eq (tgt := 73) hx hb dX4_print_64 (by decide) (fun c_64 => ?_) (fun c_64 => ?_)
        · have k_64 : (j % 16) = 11 := nn_eq (a := (j % 16)) (b := 11) c_64 (by omega) (by omega)
          refine lv_bipush (v := nI 45) hx hb dX4_print_73 (by decide) ?_
          refine lv_goto (tgt := 91) hx hb dX4_print_75 (by decide) ?_
          refine lv_i2b (v := nI 45) hx hb dX4_print_91 (byte_ok (by decide)) ?_
          exact mw_zret (v := nI 45) (ty := .byte) hE hr hlocks hP hS dX4_print_92 (byte_nar (by decide)) (⟨_, rfl, hV, Or.inr ⟨j, hj, rfl, Or.inr (Or.inr (Or.inr ⟨rfl, by unfold sgnn; rw [if_pos (by omega)]⟩))⟩⟩)
        · have k_64 : (j % 16) ≠ 11 := nn_neq (a := (j % 16)) (b := 11) c_64 (by omega) (by omega)
          refine lv_iload_n hx hb dX4_print_67 rfl (lv_at hl 0 rfl) ?_
          refine lv_bipush (v := nI 13) hx hb dX4_print_68 (by decide) ?_
          refine lv_icmp_ne (tgt := 78) hx hb dX4_print_70 (by decide) (fun c_70 => ?_) (fun c_70 => ?_)
          · have k_70 : (j % 16) ≠ 13 := nn_neq (a := (j % 16)) (b := 13) c_70 (by omega) (by omega)
            refine lv_iload_n hx hb dX4_print_78 rfl (lv_at hl 0 rfl) ?_
            refine lv_bipush (v := nI 9) hx hb dX4_print_79 (by decide) ?_
            refine lv_icmp_le (tgt := 89) hx hb dX4_print_81 (by decide) (fun c_81 => ?_) (fun c_81 => ?_)
            · have k_81 : (j % 16) ≤ 9 := nn_le (a := (j % 16)) (b := 9) c_81 (by omega) (by omega)
              refine lv_bipush (v := nI 63) hx hb dX4_print_89 (by decide) ?_
              refine lv_i2b (v := nI 63) hx hb dX4_print_91 (byte_ok (by decide)) ?_
              exact mw_zret (v := nI 63) (ty := .byte) hE hr hlocks hP hS dX4_print_92 (byte_nar (by decide)) (⟨_, rfl, hV, Or.inr ⟨j, hj, rfl, Or.inr (Or.inr (Or.inr ⟨rfl, by unfold sgnn; rw [if_neg (by omega), if_neg (by omega)]⟩))⟩⟩)
            · have k_81 : 9 < (j % 16) := nn_nle (a := (j % 16)) (b := 9) c_81 (by omega) (by omega)
              refine lv_bipush (v := nI 43) hx hb dX4_print_84 (by decide) ?_
              refine lv_goto (tgt := 91) hx hb dX4_print_86 (by decide) ?_
              refine lv_i2b (v := nI 43) hx hb dX4_print_91 (byte_ok (by decide)) ?_
              exact mw_zret (v := nI 43) (ty := .byte) hE hr hlocks hP hS dX4_print_92 (byte_nar (by decide)) (⟨_, rfl, hV, Or.inr ⟨j, hj, rfl, Or.inr (Or.inr (Or.inr ⟨rfl, by unfold sgnn; rw [if_neg (by omega), if_pos (by omega)]⟩))⟩⟩)
          · have k_70 : (j % 16) = 13 := nn_eq (a := (j % 16)) (b := 13) c_70 (by omega) (by omega)
            refine lv_bipush (v := nI 45) hx hb dX4_print_73 (by decide) ?_
            refine lv_goto (tgt := 91) hx hb dX4_print_75 (by decide) ?_
            refine lv_i2b (v := nI 45) hx hb dX4_print_91 (byte_ok (by decide)) ?_
            exact mw_zret (v := nI 45) (ty := .byte) hE hr hlocks hP hS dX4_print_92 (byte_nar (by decide)) (⟨_, rfl, hV, Or.inr ⟨j, hj, rfl, Or.inr (Or.inr (Or.inr ⟨rfl, by unfold sgnn; rw [if_pos (by omega)]⟩))⟩⟩)
  · refine lv_if_ne (tgt := 14) hx hb dX4_print_9 (by decide) (fun c9 => absurd (by decide) c9) (fun _ => ?_)
    refine lv_iconst (v := 0) hx hb dX4_print_12 (by decide) ?_
    exact mw_zret (v := 0) (ty := .byte) hE hr hlocks hP hS dX4_print_13 (rfl) (⟨_, rfl, hV, Or.inl ⟨hq_2, rfl⟩⟩)
