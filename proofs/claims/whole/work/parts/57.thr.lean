/-! reading contracts: nothing is written, nothing is made -/
section RO
variable {l : Launch} {cc : ByteArray} {D : va_G} {cl : List vw_C} {tys : List (ClassId × FieldType)} {M : mw}
theorem ro_met {y : MethodName} {ws ws' : List Cond} {rm : Room} {Qc : Array Value → State → Outcome → State → Prop} {maxL sz : Nat} {ret : Option FieldType} {vs : List Value} {lv : List (Nat × Value)}
    (hy : plainName y.cls = true) (hw : ws = Cond.code y cc maxL ret :: ws') (hn : (lg_sl vs).length ≤ maxL) (hlv : lv_args 0 vs = lv)
    (body : ∀ (p : Program) (e : Env) (s : State) (m : MethodId) (below : List Frame) (meth : Method) (c : Code) (ls : Array Slot), mw_E p c cc s vs.toArray ws y.cls m D cl tys → meth.sig.returnType = ret → meth.locks = false → mw_Q (mw_A M sz) D cl M s.heap → lv_has ls maxL lv →
      W p l e rm s m vs.toArray below meth c s.heap [] 0 0 (MQ below Qc vs.toArray s 0 0 (fun _ => False)) (F0 m 0 ls [])) : Met l y ws rm (va_Pc vs (mw_U D cl tys M sz)) Qc 0 0 (fun _ => False) := by
  refine Met.ofW hy hw ?_
  intro p e s m args below meth c s₁ B hml hv
  obtain ⟨rfl, hsz, hP, hK⟩ := hv
  rw [lg_entry_eq]
  exact body p e s m below meth c _ ⟨B.exec, B.bytes, atoms_spec (ws := ws) B.pre, findClass_of_methodNamed B.named, hK⟩ B.returns B.notSynchronized ⟨hP, mw_I.self⟩ (hlv ▸ lv_entry vs hn)
end RO
set_option maxHeartbeats 4000000 in
set_option maxRecDepth 100000 in
theorem roX3_pageAt (l : Launch) (D : va_G) (k : Nat → ClassId) (M : mw) (sz : Nat) (h : Nat → Nat) (w : Nat → Int32) (n : Nat) (pa : Nat → Nat) (x : Int32) (r9 : Option Nat) (hn9 : n ≤ 12) (f0 : M (h 0) = some (cp_o h w)) (f1 : M (h 1) = some (cp_q (k 2) 12 n pa)) (hz : (∃ j : Nat, j < n ∧ x = nI j ∧ r9 = some (pa j)) ∨ (¬ vp_in x n ∧ r9 = none)) : Met l yX3_pageAt wsX3_pageAt ({ frames := 0, cells := 0, slots := 0, locals := 0 }) (va_Pc [.ref (h 0), .int x] (mw_U D vwCl (TY k) M sz)) (k2_QcV (va_rf r9)) 0 0 (fun _ => False) := by
  refine ro_met (cc := cX3_pageAt) (maxL := 2) (ret := (some (.object "CodePages$Page"))) (lv := [(0, .ref (h 0)), (1, .int x)]) (by decide) rfl (Nat.le_of_ble_eq_true rfl) rfl ?_
  intro p e s m below meth c ls hE hr hlocks hP hl
  have hx := hE.1
  have hb := hE.2.1
  refine lv_iload_n hx hb dX3_pageAt_0 rfl (lv_at hl 1 rfl) ?_
  refine lv_if_lt (tgt := 19) hx hb dX3_pageAt_1 (by decide) (fun c_1 => ?_) (fun c_1 => ?_)
  · refine lv_null hx hb dX3_pageAt_19 ?_
    have er : r9 = none := by
      rcases hz with ⟨j, hj, ex, -⟩ | ⟨-, er⟩
      · rw [ex] at c_1
        exact absurd c_1 (nI_pos (by omega))
      · exact er
    subst er
    exact W.aret (v := .null) hx hb hr (Or.inl ⟨_, rfl⟩) (Or.inl rfl) (fun t ht _ => ⟨rfl, ht⟩) (fun q hq => by cases hq) dX3_pageAt_20 hlocks
  · refine lv_iload_n hx hb dX3_pageAt_4 rfl (lv_at hl 1 rfl) ?_
    refine lv_bipush (v := nI 12) hx hb dX3_pageAt_5 (by decide) ?_
    refine lv_icmp_ge (tgt := 19) hx hb dX3_pageAt_7 (by decide) (fun c_7 => ?_) (fun c_7 => ?_)
    · refine lv_null hx hb dX3_pageAt_19 ?_
      have er : r9 = none := by
        rcases hz with ⟨j, hj, ex, -⟩ | ⟨-, er⟩
        · rw [ex] at c_7
          exact absurd (nn_le c_7 (by omega) (by omega)) (by omega)
        · exact er
      subst er
      exact W.aret (v := .null) hx hb hr (Or.inl ⟨_, rfl⟩) (Or.inl rfl) (fun t ht _ => ⟨rfl, ht⟩) (fun q hq => by cases hq) dX3_pageAt_20 hlocks
    · refine lv_aload_n hx hb dX3_pageAt_10 rfl (lv_at hl 0 rfl) ?_
      refine mw_get (v := .ref (h 1)) (ci := 4) (T := TX3) (N := 8) (C := RX3) hE iX3_pageAt_X3 hP f0 rfl 0 (by decide) (hE.2.2.1 _ mX3_pageAt_f11) rfl rfl dX3_pageAt_11 ?_
      refine lv_iload_n hx hb dX3_pageAt_14 rfl (lv_at hl 1 rfl) ?_
      obtain ⟨j, hj, rfl⟩ := vp_in_of ((rw_in (x := x) (n := 12) (by decide)).mpr ⟨c_1, c_7⟩) (by decide)
      refine rw_aald hE hP 2 f1 rfl (by decide) dX3_pageAt_15 (by omega) ?_
      refine lv_goto (tgt := 20) hx hb dX3_pageAt_16 (by decide) ?_
      have er : r9 = (if j < n then some (pa j) else none) := by
        rcases hz with ⟨j2, hj2, ex, er⟩ | ⟨hno, er⟩
        · obtain rfl := xr (n := 12) rfl ex hj (by omega) (by omega)
          rw [er, if_pos hj2]
        · rw [er, if_neg (fun q => hno ((in_nI (by omega) (by omega)).mpr q))]
      subst er
      exact W.aret (v := va_rf (if j < n then some (pa j) else none)) hx hb hr (Or.inl ⟨_, rfl⟩) (va_rf_or _) (fun t ht _ => ⟨rfl, ht⟩) (fun q hq => by cases hq) dX3_pageAt_20 hlocks
set_option maxHeartbeats 4000000 in
set_option maxRecDepth 100000 in
theorem roX3_isCode (l : Launch) (D : va_G) (k : Nat → ClassId) (M : mw) (sz : Nat) (x : Int32) (hno : ¬ vp_in x 256) : Met l yX3_isCode wsX3_isCode ({ frames := 0, cells := 0, slots := 0, locals := 0 }) (va_Pc [.int x] (mw_U D vwCl (TY k) M sz)) (QcRead 0) 0 0 (fun _ => False) := by
  refine ro_met (cc := cX3_isCode) (maxL := 1) (ret := (some .boolean)) (lv := [(0, .int x)]) (by decide) rfl (Nat.le_of_ble_eq_true rfl) rfl ?_
  intro p e s m below meth c ls hE hr hlocks hP hl
  have hx := hE.1
  have hb := hE.2.1
  refine lv_iload_n hx hb dX3_isCode_0 rfl (lv_at hl 0 rfl) ?_
  refine lv_if_lt (tgt := 15) hx hb dX3_isCode_1 (by decide) (fun c_1 => ?_) (fun c_1 => ?_)
  · refine lv_iconst (v := 0) hx hb dX3_isCode_15 (by decide) ?_
    exact W.zret (v := 0) (ty := .boolean) hx hb hr rfl (fun t ht _ => ⟨rfl, ht⟩) (fun q hq => by cases hq) dX3_isCode_16 hlocks
  · refine lv_iload_n hx hb dX3_isCode_4 rfl (lv_at hl 0 rfl) ?_
    refine lv_sipush (v := nI 256) hx hb dX3_isCode_5 (by decide) ?_
    refine lv_icmp_ge (tgt := 15) hx hb dX3_isCode_8 (by decide) (fun c_8 => ?_) (fun c_8 => ?_)
    · refine lv_iconst (v := 0) hx hb dX3_isCode_15 (by decide) ?_
      exact W.zret (v := 0) (ty := .boolean) hx hb hr rfl (fun t ht _ => ⟨rfl, ht⟩) (fun q hq => by cases hq) dX3_isCode_16 hlocks
    · exact absurd ((rw_in (x := x) (n := 256) (by decide)).mpr ⟨c_1, c_8⟩) hno
/-! the words that the exception's own constructor asks -/
def nmsJ : List String := ["java/lang/IndexOutOfBoundsException", "java/lang/RuntimeException", "java/lang/Exception"]
def isLS : Cond → Bool
  | .laysStatic .. => true
  | _ => false
def isSR : Cond → Bool
  | .isRef (.static ..) => true
  | _ => false
set_option maxRecDepth 100000 in
theorem own_in : ∀ w ∈ Bundle.ownAtoms RX3 72 RJx00060 nmsJ, (w ∈ lw_tbl ∧ (w.onTables && w.keepsFace) = true) ∨ (w ∈ lw_tbl ∧ isLS w = true) ∨ (w ∈ flatC (Jvm.Cond.and given_1 narrow_1) ∧ isSR w = true) := by decide +kernel
theorem own_at {args a' : Array Value} {s U : State} (hW : s.WarmedH U.vm) (hH : st_same s U) (hts : ∀ w ∈ lw_tbl, w.before args s = true) (hgv : (Jvm.Cond.and given_1 narrow_1).before args s = true) : ∀ w ∈ Bundle.ownAtoms RX3 72 RJx00060 nmsJ, w.before a' U = true := by
  intro w hw
  rcases own_in w hw with ⟨h1, h2⟩ | ⟨h1, h2⟩ | ⟨h1, h2⟩
  · rw [Bool.and_eq_true] at h2
    have h4 := Cond.before_shiftedFace (State.Shifted.of_warmed hW) w h2.2 (hts w h1)
    rw [Cond.onTables_vm (A' := a') (U' := U) U.vm w h2.1, State.setVm_self] at h4
    exact h4
  · have h3 := hts w h1
    cases w <;> first | (simp [isLS] at h2; done) | exact st_lays hW hH h3
  · have h3 := flat_of_before _ hgv w h1
    cases w <;> first | (simp [isSR] at h2; done) | (rename_i t9; cases t9 <;> first | (simp [isSR] at h2; done) | exact st_ref hW hH h3)
/-- how CodePages.row ends where it throws: a new exception, and nothing else has moved -/
def TQ (below : List Frame) (s : State) : State → Prop := fun t => t.status = .running ∧ ∃ (a : Nat) (ce : Cell), Ended t below (.threw a) ∧ s.WarmedH t.vm ∧ s.sameButNew ({ t with vm := s.vm } : State) [] 1 6 ∧ t.heap[a]? = some ce ∧ s.vm.findClass RJx00060 = some ce.cls ∧ s.vm.assignable ce.cls ce.cls = true ∧ ce.vm = .none
def thR : Room := { frames := 8, cells := 1, slots := 6, locals := 150 }
set_option maxRecDepth 20000 in
theorem mX3_row_c68 : Cond.classLink RX3 68 RJx00060 ∈ wsX3_row := by decide +kernel
set_option maxRecDepth 20000 in
theorem mX3_row_i68 : Cond.instantiable RJx00060 6 ∈ wsX3_row := by decide +kernel
set_option maxRecDepth 20000 in
theorem mX3_row_n68 : Cond.initialized RJx00060 ∈ wsX3_row := by decide +kernel
section TH
variable {p : Program} {l : Launch} {e : Env} {s : State} {m : MethodId} {args : Array Value} {below : List Frame} {meth : Method} {c : Code} {ls : Array Slot} {D : va_G} {k : Nat → ClassId}
theorem thr_tail (hE : mw_E p c cX3_row s args wsX3_row RX3 m D vwCl (TY k)) (hl4 : ls.size = 4) (hml : c.maxLocals = 4) (hlocks : meth.locks = false) (hex : c.exceptionTable.isEmpty = true) (hat : ∀ w ∈ Bundle.ownAtoms RX3 72 RJx00060 nmsJ, w.before args s = true) (hsr : (Cond.stringRef RX3 70 "no such page or code").before args s = true) (htr : e.platform.stackTraces = false) :
    W p l e thR s m args below meth c s.heap [] 0 0 (TQ below s) (F0 m 17 ls []) := by
  have hx := hE.1
  have hb := hE.2.1
  have hown := hE.2.2.2.1
  refine W.newc hx hb hown (hE.2.2.1 _ mX3_row_c68) (hE.2.2.1 _ mX3_row_i68) (hE.2.2.1 _ mX3_row_n68) rfl dX3_row_17 (Nat.le_of_ble_eq_true rfl) (Nat.le_of_ble_eq_true rfl) (fun cC kC h1 h2 h3 h4 => ?_)
  refine lv_dup hx hb dX3_row_20 rfl ?_
  intro T hT X
  obtain ⟨_, _, _, a, _, _, _, _, _, hev⟩ := Cond.stringRef_spec hown hsr
  obtain ⟨U, hst, hrun, hend, hW, hsame, ce, hce, hO⟩ := X.ctorThrowS hx htr (own := RX3) (cls := RJx00060) (names := nmsJ) (ic := 72) hown (by decide +kernel) (by decide +kernel) hat (fun x hx => by cases hx) h1 h2 (a := s.heap.size) (by rw [hT, Array.getElem?_push_size]) (Nat.le_refl _) (msg := .ref a) rfl
    (g := F0 m 23 ls [.ref a, .ref s.heap.size, .ref s.heap.size]) rfl (hl4.trans hml.symm) rfl rfl (rest := []) rfl (by rw [hb]; exact dX3_row_23) (by rw [hb]; exact dX3_row_26) (covers_of_empty hex _) (Nat.le_of_ble_eq_true rfl) (Nat.le_of_ble_eq_true rfl) hlocks
  exact ⟨U, X.ldcString hx hown hsr hev (g := F0 m 21 ls [.ref s.heap.size, .ref s.heap.size]) rfl (by rw [hb]; exact dX3_row_21) U hst, hrun, _, ce, hend, hW, hsame, hce, hO.cls, hO.self, hO.vm⟩
theorem thr_row {M : mw} {h : Nat → Nat} {b : Nat → Nat → Nat} {n : Nat → Nat} {c9 : Nat → Nat → Nat → Int32} {x y : Int32} (hE : mw_E p c cX3_row s args wsX3_row RX3 m D vwCl (TY k)) (hl : lv_has ls 4 [(0, .ref (h 0)), (1, .int x), (2, .int y)]) (hml : c.maxLocals = 4) (hlocks : meth.locks = false) (hex : c.exceptionTable.isEmpty = true) (hat : ∀ w ∈ Bundle.ownAtoms RX3 72 RJx00060 nmsJ, w.before args s = true) (hsr : (Cond.stringRef RX3 70 "no such page or code").before args s = true) (htr : e.platform.stackTraces = false)
    (hP : mw_P D vwCl M s.heap) (hR : cp_R k h b n c9 M) (hn9 : mo_B n) (hno : ¬ (vp_in x (n 0) ∧ vp_in y 256)) : W p l e thR s m args below meth c s.heap [] 0 0 (TQ below s) (F0 m 0 ls []) := by
  have hx := hE.1
  have hb := hE.2.1
  have hQ : mw_Q (mw_A M s.heap.size) D vwCl M s.heap := ⟨hP, mw_I.self⟩
  have hb0 := hn9.1
  obtain ⟨⟨f0, f1, f2, f3, f4⟩, fP, fO, fX⟩ := id hR
  refine lv_aload_n hx hb dX3_row_0 rfl (lv_at hl 0 rfl) ?_
  refine lv_iload_n hx hb dX3_row_1 rfl (lv_at hl 1 rfl) ?_
  by_cases hxi : vp_in x (n 0)
  · obtain ⟨pp, hpp, rfl⟩ := vp_in_of hxi (by omega)
    refine W.callV (W.runV (As := [.int (nI pp)]) (rest := []) ⟨hx, hb, hml, hE.2.2.2.1, hE.2.2.1⟩ (roX3_pageAt l D k M _ h (fun j => nI (n (j - 4))) (n 0) (b 1) (nI pp) (some (b 1 pp)) hb0 f0 f1 (Or.inl ⟨pp, hpp, rfl, rfl⟩)) (cwV 1 hE.2.2.1 gX3_row_X3_pageAt rfl rfl rfl (by decide +kernel) ⟨(Nat.le_of_ble_eq_true rfl), (Nat.le_of_ble_eq_true rfl)⟩) (mw_preV hE hQ (ci := 4) rfl rfl f0 [.int (nI pp)]) rfl rfl hl.1 rfl (lv_room (Nat.le_of_ble_eq_true rfl)) dX3_row_2 ⟨(Nat.le_of_ble_eq_true rfl), (Nat.le_of_ble_eq_true rfl)⟩) ?_
    refine lv_astore_n (lv' := [(3, .ref (b 1 pp)), (0, .ref (h 0)), (1, .int (nI pp)), (2, .int y)]) hx hb dX3_row_5 rfl hl (by decide) rfl (fun ls hl => ?_)
    refine lv_aload_n hx hb dX3_row_6 rfl (lv_at hl 0 rfl) ?_
    refine lv_ifnull hx hb dX3_row_7 ?_
    refine lv_iload_n hx hb dX3_row_10 rfl (lv_at hl 3 rfl) ?_
    refine W.callR (W.runS (As := [.int y]) (rest := []) ⟨hx, hb, hml, hE.2.2.2.1, hE.2.2.1⟩ (roX3_isCode l D k M _ y (fun q => hno ⟨hxi, q⟩)) (va_cwS 1 hE.2.2.1 gX3_row_X3_isCode rfl rfl rfl (by decide +kernel) ⟨(Nat.le_of_ble_eq_true rfl), (Nat.le_of_ble_eq_true rfl)⟩) (mw_preS hE hQ [.int y]) rfl rfl hl.1 rfl (lv_room (Nat.le_of_ble_eq_true rfl)) dX3_row_11 ⟨(Nat.le_of_ble_eq_true rfl), (Nat.le_of_ble_eq_true rfl)⟩) ?_
    refine lv_if_ne (tgt := 27) hx hb dX3_row_14 (by rfl) (fun c9 => absurd rfl c9) (fun _ => ?_)
    exact thr_tail hE hl.1 hml hlocks hex hat hsr htr
  · refine W.callV (W.runV (As := [.int x]) (rest := []) ⟨hx, hb, hml, hE.2.2.2.1, hE.2.2.1⟩ (roX3_pageAt l D k M _ h (fun j => nI (n (j - 4))) (n 0) (b 1) x none hb0 f0 f1 (Or.inr ⟨hxi, rfl⟩)) (cwV 1 hE.2.2.1 gX3_row_X3_pageAt rfl rfl rfl (by decide +kernel) ⟨(Nat.le_of_ble_eq_true rfl), (Nat.le_of_ble_eq_true rfl)⟩) (mw_preV hE hQ (ci := 4) rfl rfl f0 [.int x]) rfl rfl hl.1 rfl (lv_room (Nat.le_of_ble_eq_true rfl)) dX3_row_2 ⟨(Nat.le_of_ble_eq_true rfl), (Nat.le_of_ble_eq_true rfl)⟩) ?_
    refine lv_astore_nN (lv' := [(3, .null), (0, .ref (h 0)), (1, .int x), (2, .int y)]) hx hb dX3_row_5 rfl hl (by decide) rfl (fun ls hl => ?_)
    refine lv_aload_nN hx hb dX3_row_6 rfl (lv_at hl 0 rfl) ?_
    refine lv_ifnullN (tgt := 17) hx hb dX3_row_7 (by rfl) ?_
    exact thr_tail hE hl.1 hml hlocks hex hat hsr htr
end TH
