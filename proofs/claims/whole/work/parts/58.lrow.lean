/-! CodePages.row where it returns -/
set_option maxRecDepth 20000 in
theorem mX3_row_f65 : Cond.fieldLink RX3 65 "CodePages$Page" "meanings" "[I" ∈ wsX3_row := by decide +kernel
set_option maxRecDepth 20000 in
theorem iX3_row_X1 : ∀ w ∈ u_ws RX1 TX1 2, w ∈ wsX3_row := by decide +kernel
set_option maxHeartbeats 4000000 in
set_option maxRecDepth 100000 in
theorem tX3_row (l : Launch) (D : va_G) (k : Nat → ClassId) (M : mw) (sz : Nat) (h : Nat → Nat) (b : Nat → Nat → Nat) (n : Nat → Nat) (c9 : Nat → Nat → Nat → Int32) (g : Nat → Nat → Int32) (L : Nat → Nat) (X : Nat → Nat → Nat) (pp j : Nat) (hpp : pp < n 0) (hj : j < 256) (hR : cp_R k h b n c9 M) (hn9 : mo_B n) (hs : sm n c9 g L X) : Met l yX3_row wsX3_row ({ frames := 1, cells := 0, slots := 0, locals := 21 }) (va_Pc [.ref (h 0), .int (nI pp), .int (nI j)] (mw_U D vwCl (TY k) M sz)) (va_Qi (fun r M1 => M1 = M ∧ r = g 1 (256 * pp + j)) (mw_B D vwCl M sz) (mw_A M sz)) 0 0 (mw_A M sz) := by
  refine mw_met (cc := cX3_row) (maxL := 4) (ret := (some .int)) (lv := [(0, .ref (h 0)), (1, .int (nI pp)), (2, .int (nI j))]) (by decide) rfl (Nat.le_of_ble_eq_true rfl) rfl ?_
  intro p e s m below meth c ls hE hr hlocks hin hml hsz hP hS hl
  subst hsz
  have hx := hE.1
  have hb := hE.2.1
  have hA : ∀ q, s.heap.size ≤ q → mw_A M s.heap.size q := fun q h => Or.inr h
  obtain ⟨hb0, hb1, hb2, hb3⟩ := id hn9
  obtain ⟨⟨f0, f1, f2, f3, f4⟩, fP, fO, fX⟩ := id hR
  obtain ⟨sP, sO, sX, sG, sL⟩ := id hs
  refine lv_aload_n hx hb dX3_row_0 rfl (lv_at hl 0 rfl) ?_
  refine lv_iload_n hx hb dX3_row_1 rfl (lv_at hl 1 rfl) ?_
  refine mw_callq hP hS hA (va_runV (As := [.int (nI pp)]) (rest := []) ⟨hx, hb, hml, hE.2.2.2.1, hE.2.2.1⟩ (tX3_pageAt l D k _ _ h (fun j => nI (n (j - 4))) (n 0) (b 1) (nI pp) hb0 f0 f1) (cwV 1 hE.2.2.1 gX3_row_X3_pageAt rfl rfl rfl (by decide +kernel) ⟨(Nat.le_of_ble_eq_true rfl), (Nat.le_of_ble_eq_true rfl)⟩) (mw_preV hE hP (ci := 4) rfl rfl f0 [.int (nI pp)]) rfl rfl hl.1 rfl (lv_room (Nat.le_of_ble_eq_true rfl)) dX3_row_2 ⟨(Nat.le_of_ble_eq_true rfl), (Nat.le_of_ble_eq_true rfl)⟩) (fun r_1 M1 H locs hw hP hS => ?_)
  obtain ⟨hM1, hw⟩ := hw
  rw [hM1] at hP
  rcases hw with ⟨p2, hp2, ex, rfl⟩ | ⟨hq_2, rfl⟩
  · obtain rfl := xr (n := 12) rfl ex (by omega) (by omega) (by omega)
    refine lv_astore_n (lv' := [(3, .ref (b 1 pp)), (0, .ref (h 0)), (1, .int (nI pp)), (2, .int (nI j))]) hx hb dX3_row_5 rfl hl (by decide) rfl (fun ls hl => ?_)
    refine lv_aload_n hx hb dX3_row_6 rfl (lv_at hl 0 rfl) ?_
    refine lv_ifnull hx hb dX3_row_7 ?_
    refine lv_iload_n hx hb dX3_row_10 rfl (lv_at hl 3 rfl) ?_
    refine mw_calli hP hS hA (va_runS (As := [.int (nI j)]) (rest := []) ⟨hx, hb, hml, hE.2.2.2.1, hE.2.2.1⟩ (tX3_isCode l D k _ _ (nI j)) (va_cwS 1 hE.2.2.1 gX3_row_X3_isCode rfl rfl rfl (by decide +kernel) ⟨(Nat.le_of_ble_eq_true rfl), (Nat.le_of_ble_eq_true rfl)⟩) (mw_preS hE hP [.int (nI j)]) rfl rfl hl.1 rfl (lv_room (Nat.le_of_ble_eq_true rfl)) dX3_row_11 ⟨(Nat.le_of_ble_eq_true rfl), (Nat.le_of_ble_eq_true rfl)⟩) (fun r_3 M1 H locs hw hP hS => ?_)
    obtain ⟨hM1, hw⟩ := hw
    rw [hM1] at hP
    rcases hw with ⟨hq_4, rfl⟩ | ⟨hq_4, rfl⟩
    · refine lv_if_ne (tgt := 27) hx hb dX3_row_14 (by decide) (fun _ => ?_) (fun c9 => absurd c9 (by decide))
      refine lv_aload_n hx hb dX3_row_27 rfl (lv_at hl 0 rfl) ?_
      refine mw_get (v := .ref (b 2 pp)) (ci := 2) (T := TX1) (N := 2) (C := RX1) hE iX3_row_X1 hP ((fP pp hpp).1) rfl 0 (by decide) (hE.2.2.1 _ mX3_row_f65) rfl rfl dX3_row_28 ?_
      refine lv_iload_n hx hb dX3_row_31 rfl (lv_at hl 3 rfl) ?_
      refine rw_iald hE hP 0 ((fP pp hpp).2) rfl (by decide) dX3_row_32 (by omega) ?_
      exact mw_iret (v := c9 1 pp j) hE hr hlocks hP hS dX3_row_33 ⟨rfl, ((sP pp hpp).2.2.1 j hj).1⟩
    · exact absurd (vp_in_nI hj (by decide)) hq_4
  · exact absurd (vp_in_nI hpp (by omega)) hq_2
/-! the law's own static method row -/
theorem own_up {args a' : Array Value} {s U : State} (hW : s.WarmedH U.vm) (hH : st_same s U) (hat : ∀ w ∈ Bundle.ownAtoms RX3 72 RJx00060 nmsJ, w.before args s = true) : ∀ w ∈ Bundle.ownAtoms RX3 72 RJx00060 nmsJ, w.before a' U = true := by
  intro w hw
  have h3 := hat w hw
  rcases own_in w hw with ⟨h1, h2⟩ | ⟨h1, h2⟩ | ⟨h1, h2⟩
  · rw [Bool.and_eq_true] at h2
    have h4 := Cond.before_shiftedFace (State.Shifted.of_warmed hW) w h2.2 h3
    rw [Cond.onTables_vm (A' := a') (U' := U) U.vm w h2.1, State.setVm_self] at h4
    exact h4
  · cases w <;> first | (simp [isLS] at h2; done) | exact st_lays hW hH h3
  · cases w <;> first | (simp [isSR] at h2; done) | (rename_i t9; cases t9 <;> first | (simp [isSR] at h2; done) | exact st_ref hW hH h3)
theorem sbn_nil {s s' : State} {cells slots : Nat} (h : s.sameButNew s' [] cells slots) : ∀ q : Nat, q < s.heap.size → s'.heap[q]? = s.heap[q]? := by
  intro q hq
  have hc : s.heap[q]? = some (s.heap[q]) := Array.getElem?_eq_getElem hq
  obtain ⟨c', h1, h2, h3, h4⟩ := h.2.2.2.2.2 q _ hc
  rw [h1, hc]
  have h5 : c'.slots = (s.heap[q]).slots := Array.ext_getElem? (fun i => h4 i (by simp))
  rw [h2, h5]
section LRW
variable {p : Program} {l : Launch} {e : Env} {R : Room} {s : State} {m : MethodId} {args : Array Value} {below : List Frame} {meth : Method} {c : Code} {H : Heap} {locs : List Loc} {cells slots : Nat} {Q : State → Prop}
variable {cc : ByteArray} {pc : Nat} {ls : Array Slot} {rest : List Value} {D : va_G} {cl : List vw_C} {A : Nat → Prop} {a : Nat} {tys : List (ClassId × FieldType)} {M : mw} {H0 : Heap} {Ts : List Cond} {own : String}
theorem mw_last (hE : mw_E p c cc s args Ts own m D cl tys) (hP : mw_Q A D cl M H) (hS : va_S A H0 H locs) (t0 : Nat) {cA : ClassId} {n : Nat} {f : Nat → Int64} (ha : M a = some (.inl (cA, n, .inr (.inl f)))) (ht : tys[t0]? = some (cA, .long)) {i : Int32} {x : Int64} (hin : vp_in i n) (hdg : decode cc pc = .ok (.lastore, 1))
    (kk : ∀ (H1 : Heap) (locs1 : List Loc), mw_Q A D cl (mw_up M a (.inl (cA, n, .inr (.inl (vp_updL f i.toNatClampNeg x))))) H1 → va_S A H0 H1 locs1 → W p l e R s m args below meth c H1 locs1 cells slots Q (F0 m (pc + 1) ls rest)) : W p l e R s m args below meth c H locs cells slots Q (F0 m pc ls (.long x :: .int i :: .ref a :: rest)) := by
  obtain ⟨hexec, hb, -, -, hK⟩ := hE
  refine W.last hexec hb (hP.1 a _ ha) ((hK.2 t0 _ ht).1 n (fun j => .long (f j))) (fun q => by cases q) (by show ¬ (i < 0 ∨ (arrV _ _ _).slots.size ≤ _); rw [arrV_size]; exact hin) rfl rfl hdg fun H1 e z oq => ?_
  refine kk H1 _ (hP.set ha ?_ oq) (hS.put z oq (hP.2 a _ ha))
  show H1[a]? = some (vp_cell _ _)
  rw [e, vp_cell_l, vp_cell_l, arrV_store]
  congr 2
  funext q
  by_cases hq : q = i.toNatClampNeg
  · subst hq
    simp [updV, vp_updL]
  · simp [updV, vp_updL, hq]
end LRW
def lrR : Room := { frames := 10, cells := 1, slots := 6, locals := 300 }
set_option maxRecDepth 20000 in
theorem mL_row_a : Cond.instanceMethod yX3_row ∈ wsL_row := by decide +kernel
set_option maxRecDepth 20000 in
theorem mL_row_b : Cond.selects RX3 yX3_row yX3_row ∈ wsL_row := by decide +kernel
set_option maxRecDepth 20000 in
theorem mL_row_c : Cond.code yX3_row cX3_row 4 (some .int) ∈ wsL_row := by decide +kernel
set_option maxRecDepth 20000 in
theorem mL_row_d : Cond.methodLink RL 7 yX3_row ∈ wsL_row := by decide +kernel
section LRX
variable {p : Program} {l : Launch} {e : Env} {s : State} {m : MethodId} {args : Array Value} {below : List Frame} {meth : Method} {c : Code} {ls : Array Slot} {D : va_G} {k : Nat → ClassId} {M : mw} {h : Nat → Nat} {b : Nat → Nat → Nat} {n : Nat → Nat} {c9 : Nat → Nat → Nat → Int32} {g : Nat → Nat → Int32} {L : Nat → Nat} {X9 : Nat → Nat → Nat} {x y : Int32} {o : Nat} {f : Nat → Int64}
set_option maxHeartbeats 4000000 in
set_option maxRecDepth 100000 in
theorem lr_ok (hE : mw_E p c cL_row s args wsL_row RL m D vwCl (TY k)) (hl : lv_has ls 5 [(0, .ref (h 0)), (1, .int x), (2, .int y), (3, .ref o)]) (hml : c.maxLocals = 5) (hr : meth.sig.returnType = some .int) (hlocks : meth.locks = false)
    (hP : mw_P D vwCl M s.heap) (hR : cp_R k h b n c9 M) (hn9 : mo_B n) (hs : sm n c9 g L X9) (ho : M o = some (.inl (k 5, 1, .inr (.inl f)))) (hyes : vp_in x (n 0) ∧ vp_in y 256) :
    W p l e lrR s m args below meth c s.heap [] 0 0 (MQ below (va_Qi (fun r M1 => R_lrow k n g o f x y r M M1) (mw_B D vwCl M s.heap.size) (mw_A M s.heap.size)) args s 1 6 (mw_A M s.heap.size)) (F0 m 5 ls [.int y, .int x, .ref (h 0), .int 0, .ref o]) := by
  have hx := hE.1
  have hb := hE.2.1
  have hQ : mw_Q (mw_A M s.heap.size) D vwCl M s.heap := ⟨hP, mw_I.self⟩
  have hA : ∀ q, s.heap.size ≤ q → mw_A M s.heap.size q := fun q h => Or.inr h
  have hb0 := hn9.1
  obtain ⟨⟨f0, f1, f2, f3, f4⟩, fP, fO, fX⟩ := id hR
  obtain ⟨pp, hpp, rfl⟩ := vp_in_of hyes.1 (by omega)
  obtain ⟨j, hj, rfl⟩ := vp_in_of hyes.2 (by omega)
  refine mw_calli hQ va_S.rf hA (va_runV (As := [.int (nI pp), .int (nI j)]) (rest := [.int 0, .ref o]) ⟨hx, hb, hml, hE.2.2.2.1, hE.2.2.1⟩ (tX3_row l D k M _ h b n c9 g L X9 pp j hpp hj hR hn9 hs) (cwV 2 hE.2.2.1 gL_row_X3_row rfl rfl rfl (by decide +kernel) ⟨(Nat.le_of_ble_eq_true rfl), (Nat.le_of_ble_eq_true rfl)⟩) (mw_preV hE hQ (ci := 4) rfl rfl f0 [.int (nI pp), .int (nI j)]) rfl rfl hl.1 rfl (lv_room (Nat.le_of_ble_eq_true rfl)) dL_row_5 ⟨(Nat.le_of_ble_eq_true rfl), (Nat.le_of_ble_eq_true rfl)⟩) (fun r_1 M1 H locs hw hP hS => ?_)
  obtain ⟨hM1, rfl⟩ := hw
  rw [hM1] at hP
  refine lv_i2l (v := (g 1 (256 * pp + j)).toInt64) hx hb dL_row_8 rfl ?_
  refine mw_last hE hP hS 5 ho rfl (vp_in_nI (n := 0) (by decide) (by decide)) dL_row_9 (fun H locs hP hS => ?_)
  refine lv_goto (tgt := 17) hx hb dL_row_10 (by decide) ?_
  refine lv_iconst (v := 0) hx hb dL_row_17 (by decide) ?_
  refine W.widen (k := 1) (n := 6) (by omega) (by omega) ?_
  exact mw_iret (v := 0) hE hr hlocks hP hS dL_row_18 (Or.inl ⟨rfl, pp, j, hpp, hj, rfl, rfl, rfl⟩)
set_option maxHeartbeats 4000000 in
set_option maxRecDepth 100000 in
theorem lr_no (hE : mw_E p c cL_row s args wsL_row RL m D vwCl (TY k)) (hl : lv_has ls 5 [(0, .ref (h 0)), (1, .int x), (2, .int y), (3, .ref o)]) (hml : c.maxLocals = 5) (hr : meth.sig.returnType = some .int) (hlocks : meth.locks = false)
    (htab : c.exceptionTable.toList.map (fun h => (h.startPc, h.endPc, h.handlerPc, h.catchType)) = [(0, 10, 13, 13)]) (hlink : (Cond.classLink RL 13 RJx00060).before args s = true) (hat : ∀ w ∈ Bundle.ownAtoms RX3 72 RJx00060 nmsJ, w.before args s = true) (hsr : (Cond.stringRef RX3 70 "no such page or code").before args s = true) (htr : e.platform.stackTraces = false)
    (hP : mw_P D vwCl M s.heap) (hR : cp_R k h b n c9 M) (hn9 : mo_B n) (hno : ¬ (vp_in x (n 0) ∧ vp_in y 256)) :
    W p l e lrR s m args below meth c s.heap [] 0 0 (MQ below (va_Qi (fun r M1 => R_lrow k n g o f x y r M M1) (mw_B D vwCl M s.heap.size) (mw_A M s.heap.size)) args s 1 6 (mw_A M s.heap.size)) (F0 m 5 ls [.int y, .int x, .ref (h 0), .int 0, .ref o]) := by
  have hx := hE.1
  have hb := hE.2.1
  have hown := hE.2.2.2.1
  have hQ : mw_Q (mw_A M s.heap.size) D vwCl M s.heap := ⟨hP, mw_I.self⟩
  obtain ⟨f0, f1, f2, f3, f4⟩ := hR.1
  obtain ⟨x0, t0, hx0⟩ : ∃ x0 t0, c.exceptionTable.toList = x0 :: t0 := by
    cases hc : c.exceptionTable.toList with
    | nil => rw [hc] at htab; cases htab
    | cons a t => exact ⟨a, t, rfl⟩
  rw [hx0, List.map_cons] at htab
  have htab0 := (List.cons.inj htab).1
  have e1 : x0.startPc = 0 := congrArg Prod.fst htab0
  have e2 : x0.endPc = 10 := congrArg (fun q => q.2.1) htab0
  have e3 : x0.handlerPc = 13 := congrArg (fun q => q.2.2.1) htab0
  have e4 : x0.catchType = 13 := congrArg (fun q => q.2.2.2) htab0
  intro T hT X
  obtain ⟨mk, methM, hnamed, hmethM, hstM, habM⟩ := Cond.instanceMethod_spec (hE.2.2.1 _ mL_row_a)
  obtain ⟨methM', cM, hmethM', hcM, hbM, hlM, hretM, hlkM, hexM, hsigM⟩ := Cond.code_spec hnamed (hE.2.2.1 _ mL_row_c)
  cases hmethM.symm.trans hmethM'
  obtain ⟨c2, r2, m2, q1, q2, q3, q4, kP, hkP, hkPi⟩ := Cond.selects_spec (hE.2.2.1 _ mL_row_b)
  obtain ⟨cellB, hcB, hoB, hclB⟩ := mw_recv hE hQ (ci := 4) rfl f0
  have hy : yX3_row.cls ≠ "java/lang/invoke/MethodHandle" ∧ yX3_row.cls ≠ "java/lang/invoke/VarHandle" := by decide
  cases (show s.vm.findClass RX3 = some cellB.cls from hclB).symm.trans q1
  cases (State.methodFound?_of_named hnamed hy).symm.trans q2
  cases hnamed.symm.trans q3
  have hselP : selectMethod e.platform s.vm cellB.cls mk = .method mk := by rw [Launch.admits_selectMethod X.admits]; exact q4
  have hlen : [Value.int x, Value.int y].length = methM.sig.parameters.length := by
    have h9 : (parseMethodDescriptor yX3_row.desc).map (fun d => d.parameters.length) = some 2 := by decide +kernel
    rw [hsigM] at h9
    exact (Option.some.inj h9).symm
  obtain ⟨vm₁, X₁, hstep₁⟩ := X.invokevirtual hx hown (hE.2.2.1 _ mL_row_d) hnamed hmethM hstM hkP hkPi hy (a := h 0) (cell := cellB) (by rw [hT]; exact hcB) (fun z h => by rw [h] at hoB; cases hoB) hselP hmethM habM hkP hkPi
    (g := F0 m 5 ls [.int y, .int x, .ref (h 0), .int 0, .ref o]) rfl (argsL := [.int x, .int y]) (rest := [.int 0, .ref o]) hlen rfl (by rw [hb]; exact dL_row_5)
  have hmk : (T.setVm vm₁).vm.method? mk = some methM := by
    rw [X₁.warmed.alike.method?]
    exact hmethM
  have hdgc : decode c.code (F0 m 5 ls [.int 0, .ref o]).pc = .ok (.invokevirtual 7, 3) := by rw [hb]; exact dL_row_5
  obtain ⟨Y, hin⟩ := X₁.into (g := F0 m 5 ls [.int 0, .ref o]) rfl (hl.1.trans hml.symm) hdgc #[.ref (h 0), .int x, .int y] (R' := thR) hmk hcM hlkM (State.plainMethod.of_named (x := yX3_row) (by decide) (X₁.named hnamed) hmk) (Nat.le_of_ble_eq_true rfl) (by rw [hlM]; exact Nat.le_of_ble_eq_true rfl) (Nat.le_of_ble_eq_true rfl) (Nat.le_of_ble_eq_true rfl)
  generalize hU : (T.setVm vm₁).calling (F0 m 5 ls [.int 0, .ref o]) mk #[.ref (h 0), .int x, .int y] = U at Y
  have hUv : U.vm = vm₁ := by rw [← hU]; rfl
  have hUh : U.heap = s.heap := by rw [← hU, ← hT]; rfl
  have hWU : s.WarmedH U.vm := by rw [hUv]; exact X₁.warmed
  have hst : st_same s U := fun q cell hq _ => by rw [hUh]; exact hq
  have hEU : mw_E p cM cX3_row U #[.ref (h 0), .int x, .int y] wsX3_row RX3 mk D vwCl (TY k) :=
    ⟨hx, hbM, fun w hw => word_at hWU (gL_row_X3_row w (by unfold wsV; exact List.mem_append_right _ hw)).2 (hE.2.2.1 w (gL_row_X3_row w (by unfold wsV; exact List.mem_append_right _ hw)).1), (by rw [hUv]; exact findClass_of_methodNamed (X₁.named hnamed)), va_K.moved hWU.alike hE.2.2.2.2⟩
  have hWk := thr_row (p := p) (l := l) (e := e) (s := U) (m := mk) (args := #[.ref (h 0), .int x, .int y]) (below := .java (F0 m 5 ls [.int 0, .ref o]) :: below) (meth := methM) (c := cM) (M := M) (h := h) (b := b) (n := n) (c9 := c9) (x := x) (y := y) hEU (lv_entry [.ref (h 0), .int x, .int y] (n := 4) (Nat.le_of_ble_eq_true rfl)) hlM hlkM hexM (own_up hWU hst hat) (st_str hWU hsr) htr (by rw [hUh]; exact hP) hR hn9 hno
  have he : entryFrame mk #[.ref (h 0), .int x, .int y] cM.maxLocals = F0 mk 0 ((lg_sl [.ref (h 0), .int x, .int y] ++ List.replicate (4 - (lg_sl [.ref (h 0), .int x, .int y]).length) Slot.unset).toArray) [] := by
    rw [hlM]
    exact lg_entry_eq mk [.ref (h 0), .int x, .int y] 4
  rw [← he] at hWk
  obtain ⟨t, hst1, hrun, xa, ce, hend, hWt, hsame, hce, hcls, hasg, hvm⟩ := hWk _ (by rw [hUh, ← hT]; rfl) Y
  rw [← hU] at hWt hsame
  obtain ⟨T', X', hWT, hsb, ht⟩ := X₁.outOfThrown (g := F0 m 5 ls [.int 0, .ref o]) rfl hend hWt hsame
  have hTh : t.heap = T'.heap := by rw [ht]; exact Stand.throwing_heap T' _ xa
  obtain ⟨vm₂, X₂, hcatch⟩ := ct_stand X' (own := RL) (C := RJx00060) (x := x0) (t := t0) hown (by rw [e4]; exact hlink) hx0 (g := F0 m 5 ls [.int 0, .ref o]) rfl (by unfold covers; rw [e1, e2]; rfl) (by rw [e4]; decide) (a := xa) (cell := ce) (by rw [← hTh]; exact hce) hvm
    (by rw [← hWU.alike.findClass]; exact hcls) (by rw [← hWU.alike.assignable]; exact hasg)
  have hk9 : ∀ q : Nat, q < s.heap.size → T'.heap[q]? = s.heap[q]? := fun q hq => by
    have h9 := sbn_nil hsb q (by show q < T.heap.size; rw [hT]; exact hq)
    rw [← hT]
    exact h9
  have hz9 : s.heap.size ≤ T'.heap.size := by
    have h9 : T.heap.size ≤ T'.heap.size := hsb.2.1
    rw [hT] at h9
    exact h9
  have hQ9 : mw_Q (mw_A M s.heap.size) D vwCl M T'.heap := ⟨hP.kept (fun a e ha => hk9 a (hP.lt ha)), mw_I.self⟩
  have hS9 : va_S (mw_A M s.heap.size) s.heap T'.heap ([] ++ []) := ⟨hz9, fun q hq _ => hk9 q hq, fun q hq => by cases hq⟩
  have kk : W p l e lrR s m args below meth c T'.heap ([] ++ []) (0 + 1) (0 + 6) (MQ below (va_Qi (fun r M1 => R_lrow k n g o f x y r M M1) (mw_B D vwCl M s.heap.size) (mw_A M s.heap.size)) args s 1 6 (mw_A M s.heap.size)) (F0 m 13 ls [.ref xa]) := by
    refine lv_astore (lv' := [(4, .ref xa), (0, .ref (h 0)), (1, .int x), (2, .int y), (3, .ref o)]) hx hb dL_row_13 hl (by decide) rfl (fun ls hl => ?_)
    refine lv_iconst (v := 1) hx hb dL_row_15 (by decide) ?_
    exact mw_iret (v := 1) hE hr hlocks hQ9 hS9 dL_row_16 (Or.inr ⟨rfl, hno, rfl⟩)
  obtain ⟨t2, s2, q2⟩ := kk (T'.setVm vm₂) rfl X₂
  refine ⟨t2, hstep₁ t2 (fun acts => ?_), q2⟩
  refine Eq.mp (congrArg (fun z => Steps p.tables e below z t2) (hin acts).symm) ?_
  refine (Steps.weaken (mid := [.java (F0 m 5 ls [.int 0, .ref o])]) hst1).trans ?_
  rw [ht]
  refine hcatch t2 ?_
  rw [e3]
  exact s2
end LRX
