/-! a catch whose class isn't resolved yet: the search resolves it -/
theorem ct_go {E : Jvm.CtlPost} {e : Env} {d : Bool} {acts : List Action} {s : State} {f : JFrame} {a : Addr} {Q : Handler → Jvm.Pre} {x : ExceptionTableEntry} {t : List ExceptionTableEntry} {c : ClassId} {cell : Cell} {vm' : Vm}
    (hx : covers x f.pc = true) (h0 : x.catchType ≠ 0) (hg : (Jvm.resolveClass f.method.cls x.catchType).Gives e.toSetting s.vm (.ok c) vm') (hsz : vm'.classes.size ≤ s.vm.classes.size)
    (hcell : s.heap[a]? = some cell) (hobj : ∀ k, cell.vm ≠ .statics k) (hk : ∃ k, vm'.classes[cell.cls]? = some k) (hc : ∃ k, vm'.classes[c]? = some k) (hfit : vm'.assignable cell.cls c = true) :
    Sem.wp (findHandler.go f a (x :: t)) Q E e d acts s ↔ Q (.found x.handlerPc) d acts (s.setVm vm') := by
  simp only [covers] at hx
  obtain ⟨ha, ht⟩ := hg.op (op := VmOp.resolveClass f.method.cls x.catchType) rfl
  simp [findHandler.go, hx, h0, ha, ht, hsz, hcell, hobj, hk, hc, hfit, VmOp.dirties, VmOp.acts]
theorem ct_step {e : Env} {s s' : State} {a : Addr} {f : JFrame} {r : List Frame} {pc : Nat} (hfind : ∀ (Q : Handler → Jvm.Pre) (E : Jvm.CtlPost) (d : Bool) (acts : List Action), Sem.wp (findHandler f a) Q E e d acts s ↔ Q (.found pc) d acts s') :
    (stepThrowing e s a (.java f :: r)).Is (s'.setFrames (.java { f with pc := pc, stack := [.ref a] } :: r)) [] := by
  simp only [stepThrowing, searchFrame, vmDo]
  generalize hr : Sem.go _ e false [] s = res
  obtain ⟨as, rfl, ha⟩ := Sem.eq_ok_of hr (a := Handler.found pc) (s' := s') (acts' := []) (by simp [hfind _ _ _ _])
  exact ⟨rfl, ha⟩
theorem ct_stand {p : Program} {l : Launch} {e : Env} {R : Room} {s : State} {m : MethodId} {args : Array Value} {below : List Frame} {meth : Method} {c : Code} {T : State} {locs : List Loc} {cells slots : Nat}
    (X : Stand p l e R s m args below meth c T locs cells slots) {own C : String} {x : ExceptionTableEntry} {t : List ExceptionTableEntry} (hown : s.vm.findClass own = some m.cls) (hlink : (Cond.classLink own x.catchType C).before args s = true) (htab : c.exceptionTable.toList = x :: t)
    {g : JFrame} (hg : g.method = m) (hx : covers x g.pc = true) (h0 : x.catchType ≠ 0) {a : Addr} {cell : Cell} (hcell : T.heap[a]? = some cell) (hvm : cell.vm = .none) (hcls : s.vm.findClass C = some cell.cls) (hasg : s.vm.assignable cell.cls cell.cls = true) :
    ∃ vm', Stand p l e R s m args below meth c (T.setVm vm') locs cells slots ∧ ∀ target, Steps p.tables e below ((T.setVm vm').setTop { g with pc := x.handlerPc, stack := [.ref a] }) target → Steps p.tables e below ((T.setTop g).pushFrame (.throwing a)) target := by
  subst hg
  have hpl : e.platform.magicAccessors = ({} : Platform).magicAccessors := by rw [X.admits.platform]
  obtain ⟨c', hc', hcl⟩ := Cond.classLink_spec hown hlink e.platform hpl
  cases hcls.symm.trans hc'
  obtain ⟨dk, _, _, kt, hd, _, _, _, _, hkt, _, hopen⟩ := hcl.here
  have hcl₀ := X.warmed.classLinks hcl
  have hW' : s.WarmedH (T.vm.noted g.method.cls x.catchType (.cls cell.cls)) := X.warmed.noted hd hopen (State.rightAt_cls hcl)
  obtain ⟨kt', hkt', -⟩ := hW'.alike.2.2 _ _ hkt
  have hg' := resolveClass_links e.toSetting hcl₀
  have X' := X.noted hW'
  generalize hv : T.vm.noted g.method.cls x.catchType (.cls cell.cls) = vm' at hW' hkt' hg' X'
  have hsz : vm'.classes.size ≤ T.vm.classes.size := by rw [hW'.alike.2.1, ← X.warmed.alike.2.1]; exact Nat.le_refl _
  refine ⟨vm', X', fun target hrest => ?_⟩
  have hvmN : ((T.setTop g).pushFrame (.throwing a)).vm = T.vm := Stand.throwing_vm T g a
  have hhpN : ((T.setTop g).pushFrame (.throwing a)).heap = T.heap := Stand.throwing_heap T g a
  have hfind : ∀ (Q : Handler → Jvm.Pre) (E : Jvm.CtlPost) (d : Bool) (acts : List Action), Sem.wp (findHandler g a) Q E e d acts ((T.setTop g).pushFrame (.throwing a)) ↔ Q (.found x.handlerPc) d acts (((T.setTop g).pushFrame (.throwing a)).setVm vm') := by
    intro Q E d acts
    rw [W.findHandler_eq (meth := meth) (code := c) (by rw [hvmN]; exact X.method') X.code, htab]
    exact ct_go hx h0 (by rw [hvmN]; exact hg') (by rw [hvmN]; exact hsz) (by rw [hhpN]; exact hcell) (fun k h => by rw [hvm] at h; cases h) ⟨_, hkt'⟩ ⟨_, hkt'⟩ (by rw [hW'.alike.assignable]; exact hasg)
  obtain ⟨hgo, hw⟩ := X.here.throwing a
  refine Steps.head hgo hw ?_
  rw [stepThread_throwing (frames_entered X.here.top _), (ct_step hfind).1]
  obtain ⟨g₀, hg₀⟩ := Option.isSome_iff_exists.mp X.here.top
  obtain ⟨r, hr⟩ := State.topJava?_eq_some.mp hg₀
  have hr' : (T.setVm vm').frames = .java g₀ :: r := hr
  rw [State.setTop_of_frames _ hr'] at hrest
  have : (((T.setTop g).pushFrame (.throwing a)).setVm vm').setFrames (.java { g with pc := x.handlerPc, stack := [.ref a] } :: T.frames.tail) = (T.setVm vm').setFrames (.java { g with pc := x.handlerPc, stack := [.ref a] } :: r) := by
    rw [State.pushFrame, State.setTop_of_frames _ hr, hr]
    show ((((T.setFrames _).setFrames _).setFrames _).setVm vm') = _
    rw [State.setFrames_setFrames, State.setFrames_setFrames]
    rfl
  rw [this]
  exact hrest
/-! words that speak of the statics, at a state whose tables are warmer and whose statics are the same -/
def st_same (s U : State) : Prop := ∀ (q : Nat) (cell : Cell), s.heap[q]? = some cell → cell.vm.isStatics = true → U.heap[q]? = some cell
theorem st_lays {args a' : Array Value} {s U : State} {C f d : String} (hW : s.WarmedH U.vm) (hH : st_same s U) (h : (Cond.laysStatic C f d).before args s = true) : (Cond.laysStatic C f d).before a' U = true := by
  have h1 : (Cond.laysStatic C f d).before args (s.setVm U.vm) = true := Cond.holds_shifted (State.Shifted.of_warmed hW) _ [] rfl h
  revert h1
  simp only [Cond.before, Cond.holds, Cond.value, State.setVm]
  have e1 : ({ s with vm := U.vm } : State).fieldFound? C f d = U.fieldFound? C f d := rfl
  rw [e1]
  cases U.vm.findClass C with
  | none => simp
  | some c0 =>
    cases U.fieldFound? C f d with
    | none => simp
    | some r =>
      obtain ⟨c', k, i, fd⟩ := r
      cases hk : k.statics with
      | none => simp [hk]
      | some q =>
        cases hq : s.heap[q]? with
        | none => simp [hk, hq]
        | some cell =>
          by_cases hi : cell.vm.isStatics = true
          · simp [hk, hq, hH q cell hq hi]
          · simp [hk, hq, hi]
theorem st_ref {args a' : Array Value} {s U : State} {C f d : String} (hW : s.WarmedH U.vm) (hH : st_same s U) (h : (Cond.isRef (.static C f d)).before args s = true) : (Cond.isRef (.static C f d)).before a' U = true := by
  have h1 : (Cond.isRef (.static C f d)).before args (s.setVm U.vm) = true := Cond.holds_shifted (State.Shifted.of_warmed hW) _ [] rfl h
  revert h1
  simp only [Cond.before, Cond.holds, Cond.value, Term.eval, State.setVm]
  have e1 : ({ s with vm := U.vm } : State).fieldNamed? C f d true = U.fieldNamed? C f d true := rfl
  rw [e1]
  cases U.fieldNamed? C f d true with
  | none => simp
  | some r =>
    obtain ⟨c', k, i⟩ := r
    cases hk : k.statics with
    | none => simp [hk]
    | some q =>
      cases hq : s.heap[q]? with
      | none => simp [hk, hq]
      | some cell =>
        by_cases hi : cell.vm.isStatics = true
        · simp [hk, hq, hH q cell hq hi, hi]
        · simp [hk, hq, hi]
theorem st_str {args a' : Array Value} {s U : State} {C t : String} {i : Nat} (hW : s.WarmedH U.vm) (h : (Cond.stringRef C i t).before args s = true) : (Cond.stringRef C i t).before a' U = true := by
  have h1 := Cond.stringRef_warmed hW h
  exact h1
