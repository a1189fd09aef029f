set_option maxRecDepth 20000 in
theorem mX0_rankBy_f9 : Cond.fieldLink RX0 9 "CodePages$Order" "ranks" "[I" ∈ wsX0_rankBy := by decide +kernel
set_option maxRecDepth 20000 in
theorem iX0_rankBy_X0 : ∀ w ∈ u_ws RX0 TX0 4, w ∈ wsX0_rankBy := by decide +kernel
set_option maxRecDepth 20000 in
theorem mX0_rankBy_arrint : Cond.arrayClass .int ∈ wsX0_rankBy := by decide +kernel
set_option maxHeartbeats 4000000 in
set_option maxRecDepth 100000 in
theorem tX0_rankBy (l : Launch) (D : va_G) (k : Nat → ClassId) (M : mw) (sz : Nat) (a b4 b5 : Nat) (al nx : Int32) (u3 u4 : Nat → Int32) (fa : M a = some (.inr (1, [.int al, .ref b4, .ref b5, .int nx]))) (fb : M b4 = some (.inl (k 0, 256, .inl u3))) (fc : M b5 = some (.inl (k 1, 256, .inl u4))) (pm : Nat) (f : Nat → Int32) (fm9 : M pm = some (.inl (k 0, 256, .inl f))) (hK : ∀ x y, x < 256 → y < 256 → kx f x = kx f y → x = y) : Met l yX0_rankBy wsX0_rankBy ({ frames := 1, cells := 1, slots := 256, locals := 21 }) (va_Pc [.ref a, .ref pm] (mw_U D vwCl (TY k) M sz)) (va_Qv (fun M1 => ∃ R3 q, M q = none ∧ M1 b4 = some (.inl (k 0, 256, .inl R3)) ∧ (∀ x, x < 256 → R3 x = nI (cntb (ltb (Kx f) x) 256)) ∧ ∀ x, x ≠ q → x ≠ b4 → M1 x = M x) (mw_B D vwCl M sz) (mw_A M sz)) 1 256 (mw_A M sz) := by
  refine mw_met (cc := cX0_rankBy) (maxL := 5) (ret := none) (lv := [(0, .ref a), (1, .ref pm)]) (by decide) rfl (Nat.le_of_ble_eq_true rfl) rfl ?_
  intro p e s m below meth c ls hE hr hlocks hin hml hsz hP hS hl
  subst hsz
  have hx := hE.1
  have hb := hE.2.1
  have hA : ∀ q, s.heap.size ≤ q → mw_A M s.heap.size q := fun q h => Or.inr h
  obtain ⟨Q, hQ⟩ : ∃ Q : State → Prop, Q = MQ below (va_Qv (fun M1 => ∃ R3 q, M q = none ∧ M1 b4 = some (.inl (k 0, 256, .inl R3)) ∧ (∀ x, x < 256 → R3 x = nI (cntb (ltb (Kx f) x) 256)) ∧ ∀ x, x ≠ q → x ≠ b4 → M1 x = M x) (mw_B D vwCl M s.heap.size) (mw_A M s.heap.size)) ([.ref a, .ref pm] : List Value).toArray s 1 256 (mw_A M s.heap.size) := ⟨_, rfl⟩
  rw [← hQ]
  have nab4 : a ≠ b4 := fun h => by have h1 := fa; rw [h, fb] at h1; cases h1
  refine lv_sipush (v := nI 256) hx hb dX0_rankBy_0 (by decide) ?_
  refine mw_newa (atype := .int) (N' := 256) (a0 := (256, .inl (fun _ => 0))) hE (hE.2.2.1 _ mX0_rankBy_arrint) rfl (fun _ _ h => h) hP hS hA 0 rfl rfl (by decide) (by decide) (by decide) (by decide) (by decide) dX0_rankBy_3 (fun q9 H hMq9 hP hS => ?_)
  refine rw_cs (k := 1) (n := 256) (by decide) (by decide) ?_
  obtain ⟨M_1, eM_1⟩ : ∃ Z, Z = mw_up M q9 (.inl (k 0, 256, .inl (fun _ => 0))) := ⟨_, rfl⟩
  have hP : mw_Q (mw_A M s.heap.size) D vwCl M_1 H := by rw [eM_1]; exact hP
  have nf_2_q9 : a ≠ q9 := mw_ne hMq9 fa
  have f_2 : M_1 a = some (.inr (1, [.int al, .ref b4, .ref b5, .int nx])) := by rw [eM_1, mw_up_n nf_2_q9]; exact fa
  have nf_3_q9 : b4 ≠ q9 := mw_ne hMq9 fb
  have f_3 : M_1 b4 = some (.inl ((k 0), 256, .inl u3)) := by rw [eM_1, mw_up_n nf_3_q9]; exact fb
  have nf_4_q9 : b5 ≠ q9 := mw_ne hMq9 fc
  have f_4 : M_1 b5 = some (.inl ((k 1), 256, .inl u4)) := by rw [eM_1, mw_up_n nf_4_q9]; exact fc
  have f_5 : M_1 q9 = some (.inl (k 0, 256, .inl (fun _ => 0))) := by rw [eM_1]; exact mw_up_s
  have naq := mw_ne hMq9 fa
  have nbq := mw_ne hMq9 fb
  have npmq := mw_ne hMq9 fm9
  refine lv_astore_n (lv' := [(2, .ref q9), (0, .ref a), (1, .ref pm)]) hx hb dX0_rankBy_5 rfl hl (by decide) rfl (fun ls hl => ?_)
  refine lv_iconst (v := 0) hx hb dX0_rankBy_6 (by decide) ?_
  refine lv_istore_n (lv' := [(3, .int 0), (2, .ref q9), (0, .ref a), (1, .ref pm)]) hx hb dX0_rankBy_7 rfl hl (by decide) rfl (fun ls hl => ?_)
  have lp_8 : ∀ (fu : Nat) (c9 : Nat) (s9 : Nat → Nat) (F : Nat → Int32) (M1 : mw), (c9 ≤ 256) → (srt (Kx f) s9 c9) → (∀ i, i < c9 → F i = nI (s9 i)) → (M1 q9 = some (.inl (k 0, 256, .inl F))) → (∀ x, x ≠ q9 → M1 x = M x) → 256 - c9 < fu → ∀ (H : Heap) (locs : List Loc), mw_Q (mw_A M s.heap.size) D vwCl M1 H → va_S (mw_A M s.heap.size) s.heap H locs → ∀ ls : Array Slot, lv_has ls 5 [(0, .ref a), (1, .ref pm), (2, .ref q9), (3, .int (nI c9))] → W p l e ({ frames := 1, cells := 1, slots := 256, locals := 21 } : Room) s m ([.ref a, .ref pm] : List Value).toArray below meth c H locs 1 256 Q (F0 m 8 ls []) := by
    intro fu
    induction fu with
    | zero => intro c9 s9 F M1 hc9 hsr hF g2 hf hn; exact absurd hn (Nat.not_lt_zero _)
    | succ fu ih_8 =>
      intro c9 s9 F M1 hc9 hsr hF g2 hf hn H locs hP hS ls hl
      refine lv_iload_n hx hb dX0_rankBy_8 rfl (lv_at hl 3 rfl) ?_
      refine lv_sipush (v := nI 256) hx hb dX0_rankBy_9 (by decide) ?_
      refine lv_icmp_ge (tgt := 68) hx hb dX0_rankBy_12 (by decide) (fun c_12 => ?_) (fun c_12 => ?_)
      · have k_12 : 256 ≤ c9 := nn_le (a := 256) (b := c9) c_12 (by omega) (by omega)
        obtain rfl : c9 = 256 := by omega
        refine lv_iconst (v := 0) hx hb dX0_rankBy_68 (by decide) ?_
        refine lv_istore_n (lv' := [(3, .int 0), (0, .ref a), (1, .ref pm), (2, .ref q9)]) hx hb dX0_rankBy_69 rfl hl (by decide) rfl (fun ls hl => ?_)
        have lp_70 : ∀ (fu : Nat) (kk : Nat) (R3 : Nat → Int32) (M3 : mw), (kk ≤ 256) → (∀ i, i < kk → R3 (s9 i) = nI i) → (M3 b4 = some (.inl (k 0, 256, .inl R3))) → (M3 q9 = some (.inl (k 0, 256, .inl F))) → (∀ x, x ≠ q9 → x ≠ b4 → M3 x = M x) → 256 - kk < fu → ∀ (H : Heap) (locs : List Loc), mw_Q (mw_A M s.heap.size) D vwCl M3 H → va_S (mw_A M s.heap.size) s.heap H locs → ∀ ls : Array Slot, lv_has ls 5 [(0, .ref a), (1, .ref pm), (2, .ref q9), (3, .int (nI kk))] → W p l e ({ frames := 1, cells := 1, slots := 256, locals := 21 } : Room) s m ([.ref a, .ref pm] : List Value).toArray below meth c H locs 1 256 Q (F0 m 70 ls []) := by
          intro fu
          induction fu with
          | zero => intro kk R3 M3 hkk hR3 g4 g5 hf3 hn; exact absurd hn (Nat.not_lt_zero _)
          | succ fu ih_70 =>
            intro kk R3 M3 hkk hR3 g4 g5 hf3 hn H locs hP hS ls hl
            refine lv_iload_n hx hb dX0_rankBy_70 rfl (lv_at hl 3 rfl) ?_
            refine lv_sipush (v := nI 256) hx hb dX0_rankBy_71 (by decide) ?_
            refine lv_icmp_ge (tgt := 92) hx hb dX0_rankBy_74 (by decide) (fun c_74 => ?_) (fun c_74 => ?_)
            · have k_74 : 256 ≤ kk := nn_le (a := 256) (b := kk) c_74 (by omega) (by omega)
              rw [hQ]
              exact mw_vret hE hr hlocks hP hS dX0_rankBy_92 (⟨R3, q9, hMq9, g4, rk_end hsr (by rw [← show kk = 256 by omega]; exact hR3), hf3⟩)
            · have k_74 : kk < 256 := nn_nle (a := 256) (b := kk) c_74 (by omega) (by omega)
              refine lv_aload_n hx hb dX0_rankBy_77 rfl (lv_at hl 0 rfl) ?_
              refine mw_get (v := .ref b4) (ci := 1) (T := TX0) (N := 4) (C := RX0) hE iX0_rankBy_X0 hP ((hf3 a naq nab4).trans fa) rfl 1 (by decide) (hE.2.2.1 _ mX0_rankBy_f9) rfl rfl dX0_rankBy_78 ?_
              refine lv_aload_n hx hb dX0_rankBy_81 rfl (lv_at hl 2 rfl) ?_
              refine lv_iload_n hx hb dX0_rankBy_82 rfl (lv_at hl 3 rfl) ?_
              refine rw_iald hE hP 0 g5 rfl (by decide) dX0_rankBy_83 (by omega) ?_
              refine rw_i (v := nI (s9 kk)) (hF kk (by omega)) ?_
              refine lv_iload_n hx hb dX0_rankBy_84 rfl (lv_at hl 3 rfl) ?_
              refine rw_iast hE hP hS 0 g4 rfl (by decide) dX0_rankBy_85 (hsr.1 kk (by omega)) (fun H locs hP hS => ?_)
              obtain ⟨M_8, eM_8⟩ : ∃ Z, Z = mw_up M3 b4 (.inl ((k 0), 256, .inl (upd R3 (s9 kk) (nI kk)))) := ⟨_, rfl⟩
              have hP : mw_Q (mw_A M s.heap.size) D vwCl M_8 H := by rw [eM_8]; exact hP
              have f_9 : M_8 b4 = some (.inl ((k 0), 256, .inl (upd R3 (s9 kk) (nI kk)))) := by rw [eM_8]; exact mw_up_s
              have f_10 : M_8 q9 = some (.inl ((k 0), 256, .inl F)) := by rw [eM_8, mw_up_n (Ne.symm nbq)]; exact g5
              refine lv_iinc (v := nI (kk + 1)) (lv' := [(3, .int (nI (kk + 1))), (0, .ref a), (1, .ref pm), (2, .ref q9)]) hx hb dX0_rankBy_86 hl (k := 3) rfl (nI_1 kk) (by decide) rfl (fun ls hl => ?_)
              refine lv_goto (tgt := 70) hx hb dX0_rankBy_89 (by decide) ?_
              have hfr9 : ∀ x, x ≠ q9 → x ≠ b4 → M_8 x = M x := fun x h1 h2 => by rw [eM_8, mw_up_n h2]; exact hf3 x h1 h2
              exact ih_70 (kk + 1) (upd R3 (s9 kk) (nI kk)) M_8 (by omega) (rk_step hsr hR3 (by omega)) (f_9) (f_10) (hfr9) (by omega) H locs hP hS ls (lv_sub hl [1, 2, 3, 0] rfl)
        exact lp_70 (257) 0 u3 M1 (by omega) (fun _ h => absurd h (Nat.not_lt_zero _)) ((hf b4 nbq).trans fb) (g2) (fun x h1 _ => hf x h1) (by omega) _ _ hP hS ls (lv_sub hl [1, 2, 3, 0] rfl)
      · have k_12 : c9 < 256 := nn_nle (a := 256) (b := c9) c_12 (by omega) (by omega)
        refine lv_iload_n hx hb dX0_rankBy_15 rfl (lv_at hl 3 rfl) ?_
        refine lv_istore (lv' := [(4, .int (nI c9)), (0, .ref a), (1, .ref pm), (2, .ref q9), (3, .int (nI c9))]) hx hb dX0_rankBy_16 hl (by decide) rfl (fun ls hl => ?_)
        have lp_18 : ∀ (fu : Nat) (p9 : Nat) (F1 : Nat → Int32) (M2 : mw), (p9 ≤ c9) → (∀ j, j < p9 → F1 j = nI (s9 j)) → (∀ j, p9 ≤ j → j < c9 → F1 (j + 1) = nI (s9 j)) → (∀ j, p9 ≤ j → j < c9 → Kx f c9 < Kx f (s9 j)) → (M2 q9 = some (.inl (k 0, 256, .inl F1))) → (∀ x, x ≠ q9 → M2 x = M x) → p9 < fu → ∀ (H : Heap) (locs : List Loc), mw_Q (mw_A M s.heap.size) D vwCl M2 H → va_S (mw_A M s.heap.size) s.heap H locs → ∀ ls : Array Slot, lv_has ls 5 [(0, .ref a), (1, .ref pm), (2, .ref q9), (3, .int (nI c9)), (4, .int (nI p9))] → W p l e ({ frames := 1, cells := 1, slots := 256, locals := 21 } : Room) s m ([.ref a, .ref pm] : List Value).toArray below meth c H locs 1 256 Q (F0 m 18 ls []) := by
          intro fu
          induction fu with
          | zero => intro p9 F1 M2 hp9 hlo1 hhi1 hhi9 g3 hf2 hn; exact absurd hn (Nat.not_lt_zero _)
          | succ fu ih_18 =>
            intro p9 F1 M2 hp9 hlo1 hhi1 hhi9 g3 hf2 hn H locs hP hS ls hl
            refine lv_iload hx hb dX0_rankBy_18 (lv_at hl 4 rfl) ?_
            refine lv_if_le (tgt := 57) hx hb dX0_rankBy_20 (by decide) (fun c_20 => ?_) (fun c_20 => ?_)
            · have k_20 : p9 ≤ 0 := nn_le (a := p9) (b := 0) c_20 (by omega) (by omega)
              refine lv_aload_n hx hb dX0_rankBy_57 rfl (lv_at hl 2 rfl) ?_
              refine lv_iload hx hb dX0_rankBy_58 (lv_at hl 4 rfl) ?_
              refine lv_iload_n hx hb dX0_rankBy_60 rfl (lv_at hl 3 rfl) ?_
              refine rw_iast hE hP hS 0 g3 rfl (by decide) dX0_rankBy_61 (by omega) (fun H locs hP hS => ?_)
              obtain ⟨M_12, eM_12⟩ : ∃ Z, Z = mw_up M2 q9 (.inl ((k 0), 256, .inl (upd F1 p9 (nI c9)))) := ⟨_, rfl⟩
              have hP : mw_Q (mw_A M s.heap.size) D vwCl M_12 H := by rw [eM_12]; exact hP
              have f_13 : M_12 q9 = some (.inl ((k 0), 256, .inl (upd F1 p9 (nI c9)))) := by rw [eM_12]; exact mw_up_s
              refine lv_iinc (v := nI (c9 + 1)) (lv' := [(3, .int (nI (c9 + 1))), (0, .ref a), (1, .ref pm), (2, .ref q9), (4, .int (nI p9))]) hx hb dX0_rankBy_62 hl (k := 3) rfl (nI_1 c9) (by decide) rfl (fun ls hl => ?_)
              refine lv_goto (tgt := 8) hx hb dX0_rankBy_65 (by decide) ?_
              have hfr9 : ∀ x, x ≠ q9 → M_12 x = M x := fun x h1 => by rw [eM_12, mw_up_n h1]; exact hf2 x h1
              have hsr9 := srt_ins hsr hp9 hhi9 (Or.inl (by omega))
              have hF9 : ∀ i, i < c9 + 1 → upd F1 p9 (nI c9) i = nI (insn s9 p9 c9 i) := ins_F hlo1 hhi1
              exact ih_8 (c9 + 1) (insn s9 p9 c9) (upd F1 p9 (nI c9)) M_12 (by omega) (hsr9) (hF9) (f_13) (hfr9) (by omega) H locs hP hS ls (lv_sub hl [1, 2, 3, 0] rfl)
            · have k_20 : 0 < p9 := nn_nle (a := p9) (b := 0) c_20 (by omega) (by omega)
              refine lv_aload_n hx hb dX0_rankBy_23 rfl (lv_at hl 1 rfl) ?_
              refine lv_iload_n hx hb dX0_rankBy_24 rfl (lv_at hl 3 rfl) ?_
              refine mw_calli hP hS hA (va_runS (As := [.ref pm, .int (nI c9)]) (rest := []) ⟨hx, hb, hml, hE.2.2.2.1, hE.2.2.1⟩ (tX0_sortKey l D k _ _ pm c9 f (by omega) ((hf2 pm npmq).trans fm9)) (va_cwS 2 hE.2.2.1 gX0_rankBy_X0_sortKey rfl rfl rfl (by decide +kernel) ⟨(Nat.le_of_ble_eq_true rfl), (Nat.le_of_ble_eq_true rfl)⟩) (mw_preS hE hP [.ref pm, .int (nI c9)]) rfl rfl hl.1 rfl (lv_room (Nat.le_of_ble_eq_true rfl)) dX0_rankBy_25 ⟨(Nat.le_of_ble_eq_true rfl), (Nat.le_of_ble_eq_true rfl)⟩) (fun r_14 M8 H locs hw hP hS => ?_)
              obtain ⟨hM8, er_14⟩ := hw
              rw [hM8] at hP
              refine lv_aload_n hx hb dX0_rankBy_28 rfl (lv_at hl 1 rfl) ?_
              refine lv_aload_n hx hb dX0_rankBy_29 rfl (lv_at hl 2 rfl) ?_
              refine lv_iload hx hb dX0_rankBy_30 (lv_at hl 4 rfl) ?_
              refine lv_iconst (v := 1) hx hb dX0_rankBy_32 (by decide) ?_
              refine lv_isub hx hb dX0_rankBy_33 ?_
              refine rw_i (v := nI (p9 - 1)) (nI_sub1 k_20) ?_
              refine rw_iald hE hP 0 g3 rfl (by decide) dX0_rankBy_34 (by omega) ?_
              refine rw_i (v := nI (s9 (p9 - 1))) (hlo1 (p9 - 1) (by omega)) ?_
              refine mw_calli hP hS hA (va_runS (As := [.ref pm, .int (nI (s9 (p9 - 1)))]) (rest := [.int r_14]) ⟨hx, hb, hml, hE.2.2.2.1, hE.2.2.1⟩ (tX0_sortKey l D k _ _ pm (s9 (p9 - 1)) f (by have := hsr.1 (p9 - 1) (by omega); omega) ((hf2 pm npmq).trans fm9)) (va_cwS 2 hE.2.2.1 gX0_rankBy_X0_sortKey rfl rfl rfl (by decide +kernel) ⟨(Nat.le_of_ble_eq_true rfl), (Nat.le_of_ble_eq_true rfl)⟩) (mw_preS hE hP [.ref pm, .int (nI (s9 (p9 - 1)))]) rfl rfl hl.1 rfl (lv_room (Nat.le_of_ble_eq_true rfl)) dX0_rankBy_35 ⟨(Nat.le_of_ble_eq_true rfl), (Nat.le_of_ble_eq_true rfl)⟩) (fun r_15 M8 H locs hw hP hS => ?_)
              obtain ⟨hM8, er_15⟩ := hw
              rw [hM8] at hP
              refine lv_icmp_ge (tgt := 57) hx hb dX0_rankBy_38 (by decide) (fun c_38 => ?_) (fun c_38 => ?_)
              · refine lv_aload_n hx hb dX0_rankBy_57 rfl (lv_at hl 2 rfl) ?_
                refine lv_iload hx hb dX0_rankBy_58 (lv_at hl 4 rfl) ?_
                refine lv_iload_n hx hb dX0_rankBy_60 rfl (lv_at hl 3 rfl) ?_
                refine rw_iast hE hP hS 0 g3 rfl (by decide) dX0_rankBy_61 (by omega) (fun H locs hP hS => ?_)
                obtain ⟨M_17, eM_17⟩ : ∃ Z, Z = mw_up M2 q9 (.inl ((k 0), 256, .inl (upd F1 p9 (nI c9)))) := ⟨_, rfl⟩
                have hP : mw_Q (mw_A M s.heap.size) D vwCl M_17 H := by rw [eM_17]; exact hP
                have f_18 : M_17 q9 = some (.inl ((k 0), 256, .inl (upd F1 p9 (nI c9)))) := by rw [eM_17]; exact mw_up_s
                refine lv_iinc (v := nI (c9 + 1)) (lv' := [(3, .int (nI (c9 + 1))), (0, .ref a), (1, .ref pm), (2, .ref q9), (4, .int (nI p9))]) hx hb dX0_rankBy_62 hl (k := 3) rfl (nI_1 c9) (by decide) rfl (fun ls hl => ?_)
                refine lv_goto (tgt := 8) hx hb dX0_rankBy_65 (by decide) ?_
                have hfr9 : ∀ x, x ≠ q9 → M_17 x = M x := fun x h1 => by rw [eM_17, mw_up_n h1]; exact hf2 x h1
                have hsr9 := srt_ins hsr hp9 hhi9 (Or.inr (lo_of hK (by omega) (by have := hsr.1 (p9 - 1) (by omega); omega) (fun q => by have := hsr.1 (p9 - 1) (by omega); omega) (by rw [← er_15, ← er_14]; exact c_38)))
                have hF9 : ∀ i, i < c9 + 1 → upd F1 p9 (nI c9) i = nI (insn s9 p9 c9 i) := ins_F hlo1 hhi1
                exact ih_8 (c9 + 1) (insn s9 p9 c9) (upd F1 p9 (nI c9)) M_17 (by omega) (hsr9) (hF9) (f_18) (hfr9) (by omega) H locs hP hS ls (lv_sub hl [1, 2, 3, 0] rfl)
              · refine lv_aload_n hx hb dX0_rankBy_41 rfl (lv_at hl 2 rfl) ?_
                refine lv_iload hx hb dX0_rankBy_42 (lv_at hl 4 rfl) ?_
                refine lv_aload_n hx hb dX0_rankBy_44 rfl (lv_at hl 2 rfl) ?_
                refine lv_iload hx hb dX0_rankBy_45 (lv_at hl 4 rfl) ?_
                refine lv_iconst (v := 1) hx hb dX0_rankBy_47 (by decide) ?_
                refine lv_isub hx hb dX0_rankBy_48 ?_
                refine rw_i (v := nI (p9 - 1)) (nI_sub1 k_20) ?_
                refine rw_iald hE hP 0 g3 rfl (by decide) dX0_rankBy_49 (by omega) ?_
                refine rw_iast hE hP hS 0 g3 rfl (by decide) dX0_rankBy_50 (by omega) (fun H locs hP hS => ?_)
                obtain ⟨M_19, eM_19⟩ : ∃ Z, Z = mw_up M2 q9 (.inl ((k 0), 256, .inl (upd F1 p9 (F1 (p9 - 1))))) := ⟨_, rfl⟩
                have hP : mw_Q (mw_A M s.heap.size) D vwCl M_19 H := by rw [eM_19]; exact hP
                have f_20 : M_19 q9 = some (.inl ((k 0), 256, .inl (upd F1 p9 (F1 (p9 - 1))))) := by rw [eM_19]; exact mw_up_s
                refine lv_iinc (v := nI (p9 - 1)) (lv' := [(4, .int (nI (p9 - 1))), (0, .ref a), (1, .ref pm), (2, .ref q9), (3, .int (nI c9))]) hx hb dX0_rankBy_51 hl (k := 4) rfl (by rw [show Int32.ofInt (-1) = -1 by decide]; exact sb_m1 k_20) (by decide) rfl (fun ls hl => ?_)
                refine lv_goto (tgt := 18) hx hb dX0_rankBy_54 (by decide) ?_
                have hfr9 : ∀ x, x ≠ q9 → M_19 x = M x := fun x h1 => by rw [eM_19, mw_up_n h1]; exact hf2 x h1
                exact ih_18 (p9 - 1) (upd F1 p9 (F1 (p9 - 1))) M_19 (by omega) (sh_lo hlo1 k_20) (sh_hi hlo1 hhi1 k_20) (sh_k hhi9 k_20 (by show (kx f c9).toInt < (kx f (s9 (p9 - 1))).toInt; rw [← er_14, ← er_15]; exact Int32.lt_iff_toInt_lt.mp (Int32.not_le.mp c_38))) (f_20) (hfr9) (by omega) H locs hP hS ls (lv_sub hl [1, 2, 3, 4, 0] rfl)
        exact lp_18 (300) c9 F M1 (Nat.le_refl _) (hF) (fun j h1 h2 => absurd h1 (by omega)) (fun j h1 h2 => absurd h1 (by omega)) (g2) (hf) (by omega) _ _ hP hS ls (lv_sub hl [1, 2, 3, 4, 0] rfl)
  exact lp_8 (257) 0 (fun _ => 0) (fun _ => 0) M_1 (by omega) (srt_0) (fun _ h => absurd h (Nat.not_lt_zero _)) (f_5) (fun x h1 => by rw [eM_1, mw_up_n h1]) (by omega) _ _ hP hS ls (lv_sub hl [2, 3, 1, 0] rfl)
