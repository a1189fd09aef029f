/-! a contract whose start also has a word of the tables that a nest mate's call needs -/
section MN
variable {l : Launch} {cc : ByteArray} {D : va_G} {cl : List vw_C} {tys : List (ClassId × FieldType)} {M : mw} {mc ms : Nat}
theorem mw_metN {w : Cond} {y : MethodName} {ws ws' : List Cond} {rm : Room} {Qc : Array Value → State → Outcome → State → Prop} {maxL sz : Nat} {ret : Option FieldType} {vs : List Value} {lv : List (Nat × Value)}
    (hy : plainName y.cls = true) (hw : ws = Cond.code y cc maxL ret :: ws') (hn : (lg_sl vs).length ≤ maxL) (hlv : lv_args 0 vs = lv)
    (body : ∀ (p : Program) (e : Env) (s : State) (m : MethodId) (below : List Frame) (meth : Method) (c : Code) (ls : Array Slot), va_Nw w s → mw_E p c cc s vs.toArray ws y.cls m D cl tys → meth.sig.returnType = ret → meth.locks = false → meth.name = y.name → c.maxLocals = maxL → s.heap.size = sz → mw_Q (mw_A M sz) D cl M s.heap → va_S (mw_A M sz) s.heap s.heap [] → lv_has ls maxL lv →
      W p l e rm s m vs.toArray below meth c s.heap [] 0 0 (MQ below Qc vs.toArray s mc ms (mw_A M sz)) (F0 m 0 ls [])) : Met l y ws rm (va_Pc vs (fun U => mw_U D cl tys M sz U ∧ va_Nw w U)) Qc mc ms (mw_A M sz) := by
  refine Met.ofW hy hw ?_
  intro p e s m args below meth c s₁ B hml hv
  obtain ⟨rfl, ⟨hsz, hP, hK⟩, hZ⟩ := hv
  rw [lg_entry_eq]
  exact body p e s m below meth c _ hZ ⟨B.exec, B.bytes, atoms_spec (ws := ws) B.pre, findClass_of_methodNamed B.named, hK⟩ B.returns B.notSynchronized (name_of_methodNamed B.named B.method).1 hml hsz ⟨hP, mw_I.self⟩ va_S.rf (hlv ▸ lv_entry vs hn)
end MN
abbrev wNest : Cond := .methodLinkNest RX3 113 yX2_init "CodePages"
section MNV
variable {p : Program} {s : State} {m : MethodId} {args : Array Value} {c : Code} {H : Heap} {cc : ByteArray} {D : va_G} {cl : List vw_C} {A : Nat → Prop} {a : Nat} {tys : List (ClassId × FieldType)} {M : mw} {Ts : List Cond} {own : String}
theorem mw_preVN (hE : mw_E p c cc s args Ts own m D cl tys) (hP : mw_Q A D cl M H) {ci : Nat} {C : String} {q : vw_C} {fs : List Value} (hc : cl[ci]? = some q) (hq : q.1 = C) (he : M a = some (.inr (ci, fs))) (hZ : va_Nw wNest s) (As : List Value) : PreV s H C a (va_Pc (.ref a :: As) (fun U => mw_U D cl tys M H.size U ∧ va_Nw wNest U)) As := by
  obtain ⟨h1, h2, h3⟩ := mw_preV (p := p) (c := c) (cc := cc) (args := args) (Ts := Ts) (own := own) (m := m) (tys := tys) hE hP hc hq he As
  refine ⟨fun x U g mk q => ?_, h2, fun U hU hW => ?_⟩
  · obtain ⟨q0, q1, qZ⟩ := q
    exact ⟨q0, (h1 x U g mk ⟨q0, q1⟩).2, va_Nw.same rfl rfl qZ⟩
  · exact ⟨(h3 U hU hW).1, (h3 U hU hW).2, va_Nw.warmM hW hZ⟩
end MNV
theorem blk0 {h : Nat → Int32} {i : Nat} (hi : i < 256) : blk (fun _ => 0) 0 256 h i = h i := by
  have := blk_in (f := fun _ => 0) (a := 0) (h := h) hi
  rwa [Nat.zero_add] at this
section MZ
variable {l : Launch} {cc : ByteArray} {D : va_G} {cl : List vw_C} {tys : List (ClassId × FieldType)} {M : mw} {mc ms : Nat}
theorem mw_metZ {Z : State → Prop} {y : MethodName} {ws ws' : List Cond} {rm : Room} {Qc : Array Value → State → Outcome → State → Prop} {maxL sz : Nat} {ret : Option FieldType} {vs : List Value} {lv : List (Nat × Value)}
    (hy : plainName y.cls = true) (hw : ws = Cond.code y cc maxL ret :: ws') (hn : (lg_sl vs).length ≤ maxL) (hlv : lv_args 0 vs = lv)
    (body : ∀ (p : Program) (e : Env) (s : State) (m : MethodId) (below : List Frame) (meth : Method) (c : Code) (ls : Array Slot), Z s → mw_E p c cc s vs.toArray ws y.cls m D cl tys → meth.sig.returnType = ret → meth.locks = false → meth.name = y.name → c.maxLocals = maxL → s.heap.size = sz → mw_Q (mw_A M sz) D cl M s.heap → va_S (mw_A M sz) s.heap s.heap [] → lv_has ls maxL lv →
      W p l e rm s m vs.toArray below meth c s.heap [] 0 0 (MQ below Qc vs.toArray s mc ms (mw_A M sz)) (F0 m 0 ls [])) : Met l y ws rm (va_Pc vs (fun U => mw_U D cl tys M sz U ∧ Z U)) Qc mc ms (mw_A M sz) := by
  refine Met.ofW hy hw ?_
  intro p e s m args below meth c s₁ B hml hv
  obtain ⟨rfl, ⟨hsz, hP, hK⟩, hZ⟩ := hv
  rw [lg_entry_eq]
  exact body p e s m below meth c _ hZ ⟨B.exec, B.bytes, atoms_spec (ws := ws) B.pre, findClass_of_methodNamed B.named, hK⟩ B.returns B.notSynchronized (name_of_methodNamed B.named B.method).1 hml hsz ⟨hP, mw_I.self⟩ va_S.rf (hlv ▸ lv_entry vs hn)
end MZ
/-- the classes of the class's three arrays of objects -/
def zAO (U : State) : Prop := va_AO RX1 U ∧ va_AO RX0 U ∧ va_AO RX2 U
theorem zAO.moved {u U : State} (hvm : u.vm.Alike U.vm) (h : zAO u) : zAO U := ⟨h.1.moved hvm, h.2.1.moved hvm, h.2.2.moved hvm⟩
section MZV
variable {p : Program} {s : State} {m : MethodId} {args : Array Value} {c : Code} {H : Heap} {cc : ByteArray} {D : va_G} {cl : List vw_C} {A : Nat → Prop} {tys : List (ClassId × FieldType)} {M : mw} {Ts : List Cond} {own : String}
theorem mw_preSZ (hE : mw_E p c cc s args Ts own m D cl tys) (hP : mw_Q A D cl M H) (hZ : zAO s) (As : List Value) : PreS s H (va_Pc As (fun U => mw_U D cl tys M H.size U ∧ zAO U)) As := by
  obtain ⟨h1, h3⟩ := mw_preS (p := p) (c := c) (cc := cc) (args := args) (Ts := Ts) (own := own) (m := m) (tys := tys) hE hP As
  refine ⟨fun x U g mk q => ?_, fun U hU hW => ?_⟩
  · obtain ⟨q0, q1, qZ⟩ := q
    exact ⟨q0, (h1 x U g mk ⟨q0, q1⟩).2, zAO.moved (u := U) (U := U.calling g mk x) (Vm.Alike.refl U.vm) qZ⟩
  · exact ⟨(h3 U hU hW).1, (h3 U hU hW).2, hZ.moved hW.alike⟩
end MZV
