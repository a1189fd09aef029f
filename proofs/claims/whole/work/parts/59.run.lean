/-! the law's call of its own row -/
set_option maxRecDepth 100000 in
theorem in_cw : Cond.codeWith yL_row cL_row 5 (some .int) [(0, 10, 13, 13)] ∈ lw_tbl := by decide +kernel
set_option maxRecDepth 100000 in
theorem in_st : Cond.static yL_row ∈ lw_tbl := by decide +kernel
set_option maxRecDepth 100000 in
theorem in_ml : Cond.methodLink RL 29 yL_row ∈ lw_tbl := by decide +kernel
set_option maxRecDepth 100000 in
theorem in_in : Cond.initialized RL ∈ lw_tbl := by decide +kernel
set_option maxRecDepth 100000 in
theorem in_ct : Cond.classLink RL 13 RJx00060 ∈ lw_tbl := by decide +kernel
set_option maxRecDepth 100000 in
theorem in_sr : Cond.stringRef RX3 70 "no such page or code" ∈ lw_tbl := by decide +kernel
theorem no_trace {l : Launch} {e : Env} (hfl : l.flags = flags0) (ha : l.admits e) : e.platform.stackTraces = false := by
  refine (congrArg Platform.stackTraces ha.platform).trans ?_
  show l.stackTraces = false
  unfold Launch.stackTraces
  rw [hfl]
  decide
set_option maxHeartbeats 4000000 in
set_option maxRecDepth 100000 in
theorem row_run {l : Launch} (hfl : l.flags = flags0) (D : va_G) (k : Nat → ClassId) : RowRun l D k := by
  intro p e s m b0 L0 xs below meth c H locs cells slots ls A M o f h b T9 n c9 g L X9 x y C0 hE hls hc hs9 hA hS hP hMs hR hT9 hn9 hs ho
  have hx := hE.1
  have hb := hE.2.1
  have hown := hE.2.2.2.1
  have hml := C0.2.2.2.1
  have hts := C0.2.2.2.2.2.1
  obtain ⟨hX9, hbl, hlocks, hgv⟩ := C0.2.2.2.2.2.2
  intro T hT X
  have htr : e.platform.stackTraces = false := no_trace hfl X.admits
  obtain ⟨mk, methM, cM, hnamed, hmethM, hcM, hbM, hlM, htabM, hretM, hlkM, hsigM⟩ := Cond.codeWith_spec (hts _ in_cw)
  have hstatic : methM.isStatic = true := Cond.static_spec hnamed hmethM (hts _ in_st)
  obtain ⟨kP, hkP, -⟩ := className_of_methodNamed hnamed
  have hinitP : kP.init = .initialized := Cond.initialized_spec (findClass_of_methodNamed hnamed) hkP (hts _ in_in)
  have hy : yL_row.cls ≠ "java/lang/invoke/MethodHandle" ∧ yL_row.cls ≠ "java/lang/invoke/VarHandle" := by decide
  have hlen : [Value.ref (h 0), Value.int x, Value.int y, Value.ref o].length = methM.sig.parameters.length := by
    have h9 : (parseMethodDescriptor yL_row.desc).map (fun d => d.parameters.length) = some 4 := by decide +kernel
    rw [hsigM] at h9
    exact (Option.some.inj h9).symm
  obtain ⟨vm₁, X₁, hstep₁⟩ := X.invokestatic hx hown (hts _ in_ml) hnamed hmethM hstatic hkP hinitP hy (g := F0 m 212 ls [.ref o, .int y, .int x, .ref (h 0)]) rfl (argsL := [.ref (h 0), .int x, .int y, .ref o]) (rest := []) hlen rfl (by rw [hb]; exact dL_law_212)
  have hmk : (T.setVm vm₁).vm.method? mk = some methM := by
    rw [X₁.warmed.alike.method?]
    exact hmethM
  have hdgc : decode c.code (F0 m 212 ls []).pc = .ok (.invokestatic 29, 3) := by rw [hb]; exact dL_law_212
  obtain ⟨Y, hin⟩ := X₁.into (g := F0 m 212 ls []) rfl (hls.trans hml.symm) hdgc #[.ref (h 0), .int x, .int y, .ref o] (R' := lrR) hmk hcM hlkM (State.plainMethod.of_named (x := yL_row) (by decide) (X₁.named hnamed) hmk) (Nat.le_of_ble_eq_true rfl) (by rw [hlM]; exact Nat.le_of_ble_eq_true rfl) (lw_rc hc) (lw_rs hs9)
  generalize hU : (T.setVm vm₁).calling (F0 m 212 ls []) mk #[.ref (h 0), .int x, .int y, .ref o] = U at Y
  have hUv : U.vm = vm₁ := by rw [← hU]; rfl
  have hUh : U.heap = H := by rw [← hU, ← hT]; rfl
  have hWU : s.WarmedH U.vm := by rw [hUv]; exact X₁.warmed
  have hst : st_same s U := fun q cell hq _ => by
    have hlt := (Array.getElem?_eq_some_iff.mp hq).1
    rw [hUh, hS.2.1 q hlt (fun h => Nat.not_le.mpr hlt ((hA q).mp h))]
    exact hq
  have hEU : mw_E p cM cL_row U #[.ref (h 0), .int x, .int y, .ref o] wsL_row RL mk D vwCl (TY k) :=
    ⟨hx, hbM, fun w hw => word_at hWU (ggL_law_L_row w hw).2 (hE.2.2.1 w (ggL_law_L_row w hw).1), (by rw [hUv]; exact findClass_of_methodNamed (X₁.named hnamed)), va_K.moved hWU.alike hE.2.2.2.2⟩
  have hl := lv_entry [.ref (h 0), .int x, .int y, .ref o] (n := 5) (Nat.le_of_ble_eq_true rfl)
  have hPU : mw_P D vwCl M U.heap := by rw [hUh]; exact hP.1
  have hWk : W p l e lrR U mk #[.ref (h 0), .int x, .int y, .ref o] (.java (F0 m 212 ls []) :: below) methM cM U.heap [] 0 0 (MQ (.java (F0 m 212 ls []) :: below) (va_Qi (fun r M1 => R_lrow k n g o f x y r M M1) (mw_B D vwCl M U.heap.size) (mw_A M U.heap.size)) #[.ref (h 0), .int x, .int y, .ref o] U 1 6 (mw_A M U.heap.size)) (F0 mk 0 ((lg_sl [.ref (h 0), .int x, .int y, .ref o] ++ List.replicate (5 - (lg_sl [.ref (h 0), .int x, .int y, .ref o]).length) Slot.unset).toArray) []) := by
    refine lv_aload_n hEU.1 hEU.2.1 dL_row_0 rfl (lv_at hl 3 rfl) ?_
    refine lv_iconst (v := 0) hEU.1 hEU.2.1 dL_row_1 (by decide) ?_
    refine lv_aload_n hEU.1 hEU.2.1 dL_row_2 rfl (lv_at hl 0 rfl) ?_
    refine lv_iload_n hEU.1 hEU.2.1 dL_row_3 rfl (lv_at hl 1 rfl) ?_
    refine lv_iload_n hEU.1 hEU.2.1 dL_row_4 rfl (lv_at hl 2 rfl) ?_
    by_cases hyes : vp_in x (n 0) ∧ vp_in y 256
    · exact lr_ok hEU hl hlM hretM hlkM hPU hR hn9 hs ho hyes
    · exact lr_no hEU hl hlM hretM hlkM htabM (word_at hWU (Or.inl rfl) (hts _ in_ct)) (own_at hWU hst hts hgv) (st_str hWU (hts _ in_sr)) htr hPU hR hn9 hyes
  have he : entryFrame mk #[.ref (h 0), .int x, .int y, .ref o] cM.maxLocals = F0 mk 0 ((lg_sl [.ref (h 0), .int x, .int y, .ref o] ++ List.replicate (5 - (lg_sl [.ref (h 0), .int x, .int y, .ref o]).length) Slot.unset).toArray) [] := by
    rw [hlM]
    exact lg_entry_eq mk [.ref (h 0), .int x, .int y, .ref o] 5
  rw [← he] at hWk
  obtain ⟨t, hst1, o9, hrun, hend, hq, L9, ⟨⟨v, rfl⟩, hWt, hsame⟩, hfree⟩ := hWk _ (by rw [hUh, ← hT]; rfl) Y
  rw [← hU] at hWt hsame
  obtain ⟨T', X', hWT, hsb, ht⟩ := X₁.outOf (g := F0 m 212 ls []) rfl hdgc hend hWt hsame
  rw [hUh] at hq hfree
  refine ⟨v, U, t, T', L9, hUh, X', hfree, ?_, ?_, hq, fun target hg => hstep₁ target (fun acts => ?_)⟩
  · rw [ht]
    first | rfl | simp [State.setTop, State.modifyTopJava]
  · rw [ht]
    first | rfl | simp [State.setTop, State.modifyTopJava]
  · refine Eq.mp (congrArg (fun z => Steps p.tables e below z target) (hin acts).symm) ?_
    refine (Steps.weaken (mid := [.java (F0 m 212 ls [])]) hst1).trans ?_
    rw [ht]
    have ev : v.toList ++ (F0 m 212 ls []).stack = v.toList ++ [] := rfl
    exact hg
