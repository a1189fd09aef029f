/-! from the law's entry to its loop -/
def mw_or (M N : mw) : mw := fun x => match M x with
  | some e => some e
  | none => N x
theorem mw_or_l {M N : mw} {x : Nat} {e : va_E} (h : M x = some e) : mw_or M N x = some e := by
  unfold mw_or
  rw [h]
theorem mw_or_r {M N : mw} {x : Nat} {e : va_E} (d : dj M N) (h : N x = some e) : mw_or M N x = some e := by
  unfold mw_or
  cases hM : M x with
  | none => exact h
  | some e2 => exact (d x e2 e hM h).elim
theorem mw_or_none {M N : mw} {x : Nat} (h : mw_or M N x = none) : M x = none ∧ N x = none := by
  unfold mw_or at h
  cases hM : M x with
  | none => rw [hM] at h; exact ⟨rfl, h⟩
  | some e2 => rw [hM] at h; cases h
theorem mw_or_Q {A : Nat → Prop} {D : va_G} {cl : List vw_C} {M N : mw} {H : Heap} (h1 : mw_Q A D cl M H) (h2 : mw_Q A D cl N H) : mw_Q A D cl (mw_or M N) H := by
  have key : ∀ x e, mw_or M N x = some e → M x = some e ∨ N x = some e := fun x e h => by
    unfold mw_or at h
    cases hM : M x with
    | none => rw [hM] at h; exact Or.inr h
    | some e2 => rw [hM] at h; exact Or.inl h
  refine ⟨fun x e h => ?_, fun x e h => ?_⟩
  · rcases key x e h with h | h
    · exact h1.1 x e h
    · exact h2.1 x e h
  · rcases key x e h with h | h
    · exact h1.2 x e h
    · exact h2.2 x e h
set_option maxRecDepth 100000 in
theorem sw_1 : Cond.classLink RL 8 RX3 ∈ lw_tbl := by decide +kernel
set_option maxRecDepth 100000 in
theorem sw_2 : Cond.instantiable RX3 8 ∈ lw_tbl := by decide +kernel
set_option maxRecDepth 100000 in
theorem sw_3 : Cond.initialized RX3 ∈ lw_tbl := by decide +kernel
set_option maxRecDepth 100000 in
theorem sw_4 : Cond.methodLink RL 15 yX3_init ∈ lw_tbl := by decide +kernel
set_option maxRecDepth 100000 in
theorem sw_5 : Cond.instanceMethod yX3_init ∈ lw_tbl := by decide +kernel
set_option maxRecDepth 100000 in
theorem sw_6 : Cond.classLink RL 16 RX4 ∈ lw_tbl := by decide +kernel
set_option maxRecDepth 100000 in
theorem sw_7 : Cond.instantiable RX4 14 ∈ lw_tbl := by decide +kernel
set_option maxRecDepth 100000 in
theorem sw_8 : Cond.initialized RX4 ∈ lw_tbl := by decide +kernel
set_option maxRecDepth 100000 in
theorem sw_9 : Cond.methodLink RL 18 yX4_init ∈ lw_tbl := by decide +kernel
set_option maxRecDepth 100000 in
theorem sw_10 : Cond.instanceMethod yX4_init ∈ lw_tbl := by decide +kernel
set_option maxRecDepth 100000 in
theorem sw_11 : Cond.arrayClass .long ∈ lw_tbl := by decide +kernel
set_option maxHeartbeats 4000000 in
set_option maxRecDepth 100000 in
theorem whole_start_open {p : Program} {e : Env} {s : State} {m : MethodId} {below : List Frame} {meth : Method} {c : Code} (l : Launch) (hfl : l.flags = flags0) {b0 L0 : Nat} {xs : Nat → Int32} (hL : L0 ≤ 2048) (C0 : lw_At p s m meth c b0 L0 xs) : W p l e room_1 s m #[Value.ref b0] below meth c s.heap [] 0 0 (lw_Z below #[Value.ref b0] s) (entryFrame m ([Value.ref b0] : List Value).toArray 7) := by
  have hts := C0.2.2.2.2.2.1
  obtain ⟨D, k, hK, hzA, hZN⟩ := law_K hts
  have hE : mw_E p c code s #[Value.ref b0] wsL_law RL m D vwCl (TY k) := ⟨C0.1, C0.2.1, fun w hw => hts w (wsL_law_in w hw), C0.2.2.2.2.1, hK⟩
  have hx := hE.1
  have hb := hE.2.1
  have hml := C0.2.2.2.1
  have hA : ∀ q : Nat, s.heap.size ≤ q → (fun q : Nat => s.heap.size ≤ q) q := fun _ h => h
  have hS : va_S (fun q : Nat => s.heap.size ≤ q) s.heap s.heap [] := va_S.rf
  have hP0 : mw_Q (fun q : Nat => s.heap.size ≤ q) D vwCl (fun _ => none) s.heap := ⟨fun _ _ h => (by cases h), fun _ _ h => (by cases h)⟩
  rw [lg_entry_eq]
  have hl : lv_has ((lg_sl [Value.ref b0] ++ List.replicate (7 - (lg_sl [Value.ref b0]).length) Slot.unset).toArray) 7 [(0, .ref b0)] := lv_entry [.ref b0] (n := 7) (Nat.le_of_ble_eq_true rfl)
  generalize (lg_sl [Value.ref b0] ++ List.replicate (7 - (lg_sl [Value.ref b0]).length) Slot.unset).toArray = ls at hl
  refine mw_new (ci := 4) (fs := [.null, .null, .null, .null, .int 0, .int 0, .int 0, .int 0]) (C := RX3) (T := TX3) (N := 8) hE inlX3 tyX3 tyX3_ok (hts _ sw_1) (hts _ sw_2) (hts _ sw_3) hP0 hS hA rfl (by decide +kernel) (by decide) (by decide) dL_law_0 (fun a9 H hMa hP hS => ?_)
  refine lv_dup hx hb dL_law_3 rfl ?_
  refine mw_callv hP hS hA (va_runI (As := []) (rest := [.ref a9]) ⟨hx, hb, hml, hE.2.2.2.1, hE.2.2.1⟩ (tX3_init l D k _ _ a9 mw_up_s) (cwI 0 hE.2.2.1 gL_law_X3_init rfl rfl rfl (hts _ sw_3) (hts _ sw_4) (hts _ sw_5) rfl (by decide +kernel) ⟨(Nat.le_of_ble_eq_true rfl), (Nat.le_of_ble_eq_true rfl)⟩) (mw_preSZ hE hP hzA [.ref a9]) rfl rfl hl.1 rfl (lv_room (Nat.le_of_ble_eq_true rfl)) dL_law_4 ⟨(Nat.le_of_ble_eq_true rfl), (Nat.le_of_ble_eq_true rfl)⟩) (fun Mc H locs hw hPc hS => ?_)
  obtain ⟨h, T, rfl, hR, hT⟩ := hw
  refine lv_astore_n (lv' := [(1, .ref (h 0)), (0, .ref b0)]) hx hb dL_law_7 rfl hl (by decide) rfl (fun ls hl => ?_)
  refine mw_new (ci := 5) (fs := [.int 0, .null, .null, .int 0, .null, .null, .null, .int 0, .null, .null, .int 0, .null, .int 0, .int 0]) (C := RX4) (T := TX4) (N := 14) hE inlX4 tyX4 tyX4_ok (hts _ sw_6) (hts _ sw_7) (hts _ sw_8) hPc hS hA rfl (by decide +kernel) (by decide) (by decide) dL_law_8 (fun b9 H hMb hP hS => ?_)
  refine lv_dup hx hb dL_law_11 rfl ?_
  have hPc : mw_Q (fun q : Nat => s.heap.size ≤ q) D vwCl Mc H := hP.mono (fun x e hx => by rw [mw_up_n (mw_ne hMb hx)]; exact hx)
  have hP1 : mw_Q (fun q : Nat => s.heap.size ≤ q) D vwCl (mw_up (fun _ => none) b9 (.inr (5, [.int 0, .null, .null, .int 0, .null, .null, .null, .int 0, .null, .null, .int 0, .null, .int 0, .int 0]))) H := hP.mono (fun x e hx => by
    by_cases q : x = b9
    · subst q
      rw [mw_up_s] at hx ⊢
      exact hx
    · rw [mw_up_n q] at hx
      cases hx)
  have d1 : dj (mw_up (fun _ => none) b9 (.inr (5, [.int 0, .null, .null, .int 0, .null, .null, .null, .int 0, .null, .null, .int 0, .null, .int 0, .int 0]))) Mc := fun x e1 e2 h1 h2 => by
    by_cases q : x = b9
    · subst q
      rw [hMb] at h2
      cases h2
    · rw [mw_up_n q] at h1
      cases h1
  refine lw_callv hP1 hPc d1 hS hA (va_runI (As := []) (rest := [.ref b9]) ⟨hx, hb, hml, hE.2.2.2.1, hE.2.2.1⟩ (tX4_init l D k _ _ b9 mw_up_s) (cwI 0 hE.2.2.1 gL_law_X4_init rfl rfl rfl (hts _ sw_8) (hts _ sw_9) (hts _ sw_10) rfl (by decide +kernel) ⟨(Nat.le_of_ble_eq_true rfl), (Nat.le_of_ble_eq_true rfl)⟩) (mw_preS hE hP1 [.ref b9]) rfl rfl hl.1 rfl (lv_room (Nat.le_of_ble_eq_true rfl)) dL_law_12 ⟨(Nat.le_of_ble_eq_true rfl), (Nat.le_of_ble_eq_true rfl)⟩) (fun M1 H2 locs2 hw hP2 hPc2 d2 hS2 => ?_)
  obtain ⟨ad, rfl, hN, hsub⟩ := hw
  have hPm2 := hP2.mono hsub
  have dcm : dj Mc (mo_M (k 0) ad (fun _ => 0) (fun _ _ => 0)) := (d2.sub hsub).symm
  refine lv_astore_n (lv' := [(2, .ref (ad 0)), (1, .ref (h 0)), (0, .ref b0)]) hx hb dL_law_15 rfl hl (by decide) rfl (fun ls hl => ?_)
  refine lv_iconst (v := 1) hx hb dL_law_16 (by decide) ?_
  have hPu := mw_or_Q hPc2 hPm2
  refine mw_newa (atype := .long) (N' := 1) (a0 := (1, .inr (.inl (fun _ => 0)))) hE (hts _ sw_11) rfl (fun _ _ h => h) hPu hS2 hA 5 rfl rfl (by decide) (by decide) (by decide) (by decide) (by decide) dL_law_17 (fun o9 H3 hMo hP3 hS3 => ?_)
  obtain ⟨hMo1, hMo2⟩ := mw_or_none hMo
  have hPc : mw_Q (fun q : Nat => s.heap.size ≤ q) D vwCl Mc H3 := hP3.mono (fun x e hx => by rw [mw_up_n (mw_ne hMo1 hx)]; exact mw_or_l hx)
  have hPm : mw_Q (fun q : Nat => s.heap.size ≤ q) D vwCl (mo_M (k 0) ad (fun _ => 0) (fun _ _ => 0)) H3 := hP3.mono (fun x e hx => by rw [mw_up_n (mw_ne hMo2 hx)]; exact mw_or_r dcm hx)
  have hPo : mw_Q (fun q : Nat => s.heap.size ≤ q) D vwCl (lw_o k o9 (fun _ => 0)) H3 := hP3.mono (fun x e hx => by
    obtain ⟨h1, h2⟩ := lw_o_sub hx
    rw [h1, h2]
    exact mw_up_s)
  have dco : dj Mc (lw_o k o9 (fun _ => 0)) := fun x e1 e2 h1 h2 => mw_ne hMo1 h1 (lw_o_sub h2).1
  have dmo : dj (mo_M (k 0) ad (fun _ => 0) (fun _ _ => 0)) (lw_o k o9 (fun _ => 0)) := fun x e1 e2 h1 h2 => mw_ne hMo2 h1 (lw_o_sub h2).1
  refine lv_astore_n (lv' := [(3, .ref o9), (2, .ref (ad 0)), (1, .ref (h 0)), (0, .ref b0)]) hx hb dL_law_19 rfl hl (by decide) rfl (fun ls hl => ?_)
  refine lv_iconst (v := nI (4 * 0)) hx hb dL_law_20 (by decide) ?_
  refine lv_istore (lv' := [(4, .int (nI (4 * 0))), (3, .ref o9), (2, .ref (ad 0)), (1, .ref (h 0)), (0, .ref b0)]) hx hb dL_law_21 hl (by decide) rfl (fun ls hl => ?_)
  refine rw_cs (k := 15 + 8 * 0) (n := 8307 + 800 * 0) (by omega) (by omega) ?_
  exact law_loop_open hL C0 hK hZN (row_run hfl D k) h ad o9 hN 600 0 (fun _ _ => 0) T (fun _ => 0) (fun _ _ _ => 0) (fun _ _ => 0) (fun _ => 0) (fun _ _ => 0) (fun _ => 0) Mc (fun _ => 0) (by omega) (by omega)
    ⟨hR, hT, ⟨by decide, by decide, by decide, by decide⟩, ⟨fun _ h => absurd h (Nat.not_lt_zero _), fun _ h => absurd h (Nat.not_lt_zero _), fun _ h => absurd h (Nat.not_lt_zero _), fun _ h => absurd h (Nat.not_lt_zero _), fun _ h => absurd h (Nat.not_lt_zero _)⟩, ⟨by decide, by decide, by decide, by decide⟩, fun _ h => absurd h (Nat.not_lt_zero _), fun _ _ => rfl⟩
    H3 locs2 hPc hPm hPo dcm dco dmo hS3 ls (lv_sub hl [4, 3, 2, 1, 0] rfl)
