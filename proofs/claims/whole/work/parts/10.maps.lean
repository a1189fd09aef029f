/-! WORLDS BY ADDRESS: a partial map M from addresses to what stands there; a change is a change of the map at one address; calls hand the map on. -/
abbrev mw : Type := Nat → Option va_E
def mw_P (D : va_G) (cl : List vw_C) (M : mw) (H : Heap) : Prop := ∀ (a : Nat) (e : va_E), M a = some e → va_at D cl (a, e) H
def mw_I (A : Nat → Prop) (M : mw) : Prop := ∀ (a : Nat) (e : va_E), M a = some e → A a
def mw_Q (A : Nat → Prop) (D : va_G) (cl : List vw_C) (M : mw) (H : Heap) : Prop := mw_P D cl M H ∧ mw_I A M
def mw_up (M : mw) (a : Nat) (e : va_E) : mw := fun x => if x = a then some e else M x
theorem mw_up_s {M : mw} {a : Nat} {e : va_E} : mw_up M a e a = some e := if_pos rfl
theorem mw_up_n {M : mw} {a x : Nat} {e : va_E} (h : x ≠ a) : mw_up M a e x = M x := if_neg h
theorem mw_up_up {M : mw} {a : Nat} {e e2 : va_E} : mw_up (mw_up M a e) a e2 = mw_up M a e2 := by
  funext x
  by_cases h : x = a
  · rw [h, mw_up_s, mw_up_s]
  · rw [mw_up_n h, mw_up_n h, mw_up_n h]
theorem mw_up_id {M : mw} {a : Nat} {e : va_E} (h : M a = some e) : mw_up M a e = M := by
  funext x
  by_cases hx : x = a
  · rw [hx, mw_up_s, h]
  · rw [mw_up_n hx]
theorem mw_ne {M : mw} {a b : Nat} {e : va_E} (ha : M a = none) (hb : M b = some e) : b ≠ a := fun h => by rw [h, ha] at hb; cases hb
/-- which cells a method may change: those of its map, and new ones -/
def mw_A (M : mw) (sz : Nat) : Nat → Prop := fun q => (∃ e, M q = some e) ∨ sz ≤ q
theorem mw_P.lt {D : va_G} {cl : List vw_C} {M : mw} {H : Heap} (h : mw_P D cl M H) {a : Nat} {e : va_E} (ha : M a = some e) : a < H.size := (h a e ha).lt
theorem mw_P.one {D : va_G} {cl : List vw_C} {M : mw} {H : Heap} (h : mw_P D cl M H) {a : Nat} {e : va_E} (ha : M a = some e) : va_P D cl [(a, e)] H := by
  intro k q hk
  cases k with
  | zero => cases hk; exact h a e ha
  | succ k => simp at hk
theorem mw_P.kept {D : va_G} {cl : List vw_C} {M : mw} {H H1 : Heap} (h : mw_P D cl M H) (hq : ∀ (a : Nat) (e : va_E), M a = some e → H1[a]? = H[a]?) : mw_P D cl M H1 := fun a e ha => (h a e ha).kept (hq a e ha)
theorem mw_Q.set {A : Nat → Prop} {D : va_G} {cl : List vw_C} {M : mw} {H H1 : Heap} {a : Nat} {e0 e : va_E} (h : mw_Q A D cl M H) (ha : M a = some e0) (he : va_at D cl (a, e) H1) (oq : ∀ q : Nat, q ≠ a → H1[q]? = H[q]?) : mw_Q A D cl (mw_up M a e) H1 := by
  refine ⟨fun x ex hx => ?_, fun x ex hx => ?_⟩
  · by_cases hxa : x = a
    · subst hxa
      rw [mw_up_s] at hx
      cases hx
      exact he
    · rw [mw_up_n hxa] at hx
      exact (h.1 x ex hx).kept (oq x hxa)
  · by_cases hxa : x = a
    · subst hxa
      exact h.2 x e0 ha
    · rw [mw_up_n hxa] at hx
      exact h.2 x ex hx
theorem mw_Q.push {A : Nat → Prop} {D : va_G} {cl : List vw_C} {M : mw} {H H1 : Heap} {e : va_E} (h : mw_Q A D cl M H) (hA : A H.size) (he : va_at D cl (H.size, e) H1) (oq : ∀ q : Nat, q < H.size → H1[q]? = H[q]?) : mw_Q A D cl (mw_up M H.size e) H1 := by
  refine ⟨fun x ex hx => ?_, fun x ex hx => ?_⟩
  · by_cases hxa : x = H.size
    · subst hxa
      rw [mw_up_s] at hx
      cases hx
      exact he
    · rw [mw_up_n hxa] at hx
      exact (h.1 x ex hx).kept (oq x (h.1.lt hx))
  · by_cases hxa : x = H.size
    · subst hxa
      exact hA
    · rw [mw_up_n hxa] at hx
      exact h.2 x ex hx
theorem mw_fresh {D : va_G} {cl : List vw_C} {M : mw} {H : Heap} (h : mw_P D cl M H) : M H.size = none := by
  cases hM : M H.size with
  | none => rfl
  | some e => exact absurd (h.lt hM) (Nat.lt_irrefl _)
theorem mw_A.le {A : Nat → Prop} {D : va_G} {cl : List vw_C} {M : mw} {H H0 : Heap} {locs : List Loc} (h : mw_Q A D cl M H) (hS : va_S A H0 H locs) (hA : ∀ q, H0.size ≤ q → A q) : ∀ q, mw_A M H.size q → A q := by
  intro q hq
  rcases hq with ⟨e, he⟩ | hq
  · exact h.2 q e he
  · exact hA q (Nat.le_trans hS.1 hq)
theorem mw_I.self {M : mw} {sz : Nat} : mw_I (mw_A M sz) M := fun _ e h => Or.inl ⟨e, h⟩
/-- what holds all through a method: the machine, the code, the words, its class, the tables -/
def mw_E (p : Program) (c : Code) (cc : ByteArray) (s : State) (args : Array Value) (Ts : List Cond) (own : String) (m : MethodId) (D : va_G) (cl : List vw_C) (tys : List (ClassId × FieldType)) : Prop :=
  p.tables.exec = Jvm.exec ∧ c.code = cc ∧ (∀ w ∈ Ts, w.before args s = true) ∧ s.vm.findClass own = some m.cls ∧ va_K D cl tys s
section MW
variable {p : Program} {l : Launch} {e : Env} {R : Room} {s : State} {m : MethodId} {args : Array Value} {below : List Frame} {meth : Method} {c : Code} {H : Heap} {locs : List Loc} {cells slots : Nat} {Q : State → Prop}
variable {cc : ByteArray} {pc : Nat} {ls : Array Slot} {rest : List Value} {D : va_G} {cl : List vw_C} {A : Nat → Prop} {a : Nat} {tys : List (ClassId × FieldType)} {M : mw} {H0 : Heap} {Ts : List Cond} {own : String}
theorem mw_get (hE : mw_E p c cc s args Ts own m D cl tys) {ref C : String} {T : u_T} {N ci index : Nat} (hin : ∀ w ∈ u_ws C T N, w ∈ Ts) (hP : mw_Q A D cl M H) {fs : List Value} (he : M a = some (.inr (ci, fs))) (hc : cl[ci]? = some (C, T, N)) (k : Nat) (hk : k < N) (hlink : (Cond.fieldLink own index ref (T k).2.1 (T k).2.2.1).before args s = true) (href : (T k).1 = ref) {v : Value} (hv : fs[k]? = some v) (hdg : decode cc pc = .ok (.getfield index, 3))
    (kk : W p l e R s m args below meth c H locs cells slots Q (F0 m (pc + 3) ls (v :: rest))) : W p l e R s m args below meth c H locs cells slots Q (F0 m pc ls (.ref a :: rest)) :=
  va_get hE.1 hE.2.1 hE.2.2.1 hin hE.2.2.2.1 hE.2.2.2.2 (hP.1.one he) 0 rfl hc k hk hlink (fun x h => by rw [← href]; exact h) hv hdg kk
theorem mw_put (hE : mw_E p c cc s args Ts own m D cl tys) {ref C : String} {T : u_T} {N ci index : Nat} (hin : ∀ w ∈ u_ws C T N, w ∈ Ts) (ty0 : Nat → FieldType) (hty : ∀ k, k < N → parseFieldDescriptor (T k).2.2.1 = some (ty0 k)) (hnm : ∀ a, a < N → ∀ b, b < N → a ≠ b → (T a).2.1 ≠ (T b).2.1) (hP : mw_Q A D cl M H) (hS0 : va_S A H0 H locs) {fs : List Value} (he : M a = some (.inr (ci, fs))) (hc : cl[ci]? = some (C, T, N)) (k : Nat) (hk : k < N) (hlink : (Cond.fieldLink own index ref (T k).2.1 (T k).2.2.1).before args s = true) (href : (T k).1 = ref) (hfin : (T k).2.2.2 = false) {ty : FieldType} {v : Value} (hd : parseFieldDescriptor (T k).2.2.1 = some ty) (hn : narrow ty v = v) (hfit : fits ty v = true) (hl : k < fs.length)
    (hdg : decode cc pc = .ok (.putfield index, 3)) (kk : ∀ (H1 : Heap) (locs1 : List Loc), mw_Q A D cl (mw_up M a (.inr (ci, fs.set k v))) H1 → va_S A H0 H1 locs1 → W p l e R s m args below meth c H1 locs1 cells slots Q (F0 m (pc + 3) ls rest)) : W p l e R s m args below meth c H locs cells slots Q (F0 m pc ls (v :: .ref a :: rest)) := by
  obtain ⟨hexec, hb, hts, hown, hK⟩ := hE
  have hap := va_apart (own := own) hts hin ty0 hty hnm hK hc
  obtain ⟨r, h1, cell, q1, q2, q3, q4⟩ := hP.1 a _ he
  have hr : r = (C, T, N) := Option.some.inj (h1.symm.trans hc)
  subst hr
  obtain ⟨hS, hfc, kC, hkC, hkind⟩ := hK.1 ci _ hc
  obtain ⟨cf, kf, fi, f, hi, hsl⟩ := hS k hk
  have hlay := hts _ (hin _ (u_in_lay hk))
  unfold u_lay at hlay
  rw [if_neg (by rw [hfin]; decide)] at hlay
  have hst := (u_facts hfc hkC (u_lays hts hin hk) hi).1
  have h6 := u_store hfc hkC hkind hlay hi hd hn hfit
  have hi2 := hi
  rw [href] at hi2
  refine W.putK hexec hb (f := f) ⟨hown, hlink, ⟨_, _, _, hi2⟩, hst⟩ (by rw [q2]; exact h6) q1 q3 (by rw [hsl]; exact k2_hasslot (q4 k hk)) rfl rfl hdg fun H' e1 e2 e3 => ?_
  rw [hsl] at e1 ⊢
  exact kk H' _ (hP.set he ⟨_, hc, t_OB.to (V := updV (vp_V fs) k v) ⟨_, e1, q2, q3, t_set q4 hap hk v⟩ (fun j _ => vp_updV_set hl v j)⟩ e3) (hS0.put e2 e3 (hP.2 a _ he))
theorem mw_putF (hE : mw_E p c cc s args Ts own m D cl tys) {ref C : String} {T : u_T} {N ci index : Nat} (hin : ∀ w ∈ u_ws C T N, w ∈ Ts) (ty0 : Nat → FieldType) (hty : ∀ k, k < N → parseFieldDescriptor (T k).2.2.1 = some (ty0 k)) (hnm : ∀ a, a < N → ∀ b, b < N → a ≠ b → (T a).2.1 ≠ (T b).2.1) (hP : mw_Q A D cl M H) (hS0 : va_S A H0 H locs) {fs : List Value} (he : M a = some (.inr (ci, fs))) (hc : cl[ci]? = some (C, T, N)) (k : Nat) (hk : k < N) (hlink : (Cond.fieldLink own index ref (T k).2.1 (T k).2.2.1).before args s = true) (href : (T k).1 = ref) (hfin : (T k).2.2.2 = true) (hin2 : meth.name = "<init>") (hdecl : (T k).1 = own) {ty : FieldType} {v : Value} (hd : parseFieldDescriptor (T k).2.2.1 = some ty) (hn : narrow ty v = v) (hfit : fits ty v = true) (hl : k < fs.length)
    (hdg : decode cc pc = .ok (.putfield index, 3)) (kk : ∀ (H1 : Heap) (locs1 : List Loc), mw_Q A D cl (mw_up M a (.inr (ci, fs.set k v))) H1 → va_S A H0 H1 locs1 → W p l e R s m args below meth c H1 locs1 cells slots Q (F0 m (pc + 3) ls rest)) : W p l e R s m args below meth c H locs cells slots Q (F0 m pc ls (v :: .ref a :: rest)) := by
  obtain ⟨hexec, hb, hts, hown, hK⟩ := hE
  have hap := va_apart (own := own) hts hin ty0 hty hnm hK hc
  obtain ⟨r, h1, cell, q1, q2, q3, q4⟩ := hP.1 a _ he
  have hr : r = (C, T, N) := Option.some.inj (h1.symm.trans hc)
  subst hr
  obtain ⟨hS, hfc, kC, hkC, hkind⟩ := hK.1 ci _ hc
  obtain ⟨cf, kf, fi, f, hi, hsl⟩ := hS k hk
  have hlay := hts _ (hin _ (u_in_lay hk))
  unfold u_lay at hlay
  rw [if_pos hfin] at hlay
  have hst := (u_facts hfc hkC (u_lays hts hin hk) hi).1
  have hcf : m.cls = cf := by
    obtain ⟨_, _, c', _, _, _, -, -, hf', -, -, -, hown2, -⟩ := Cond.laysFinal_spec hlay
    have e1 : c' = cf := by have := hi.symm.trans hf'; simp at this; exact this.1.symm
    rw [hdecl] at hown2
    rw [← e1]; exact Option.some.inj (hown.symm.trans hown2)
  have h6 := u_fits hfc hkC hkind (Or.inr hlay) hi hd hn hfit
  have hi2 := hi
  rw [href] at hi2
  refine W.putFinK hexec hb hown hlink hi2 hst hcf hin2 (by rw [q2]; exact h6) q1 q3 (by rw [hsl]; exact k2_hasslot (q4 k hk)) rfl rfl hdg fun H' e1 e2 e3 => ?_
  rw [hsl] at e1 ⊢
  exact kk H' _ (hP.set he ⟨_, hc, t_OB.to (V := updV (vp_V fs) k v) ⟨_, e1, q2, q3, t_set q4 hap hk v⟩ (fun j _ => vp_updV_set hl v j)⟩ e3) (hS0.put e2 e3 (hP.2 a _ he))
theorem mw_iald (hE : mw_E p c cc s args Ts own m D cl tys) (hP : mw_Q A D cl M H) (t0 : Nat) {cA : ClassId} {n : Nat} {f : Nat → Int32} (ha : M a = some (.inl (cA, n, .inl f))) (ht : tys[t0]? = some (cA, .int)) {i : Int32} (hin : vp_in i n) (hdg : decode cc pc = .ok (.iaload, 1))
    (kk : W p l e R s m args below meth c H locs cells slots Q (F0 m (pc + 1) ls (.int (f i.toNatClampNeg) :: rest))) : W p l e R s m args below meth c H locs cells slots Q (F0 m pc ls (.int i :: .ref a :: rest)) :=
  va_iald hE.1 hE.2.1 hE.2.2.2.2 (hP.1.one ha) 0 t0 rfl ht hin hdg kk
theorem mw_bald (hE : mw_E p c cc s args Ts own m D cl tys) (hP : mw_Q A D cl M H) (t0 : Nat) {cA : ClassId} {n : Nat} {f : Nat → Int32} (ha : M a = some (.inl (cA, n, .inl f))) (ht : tys[t0]? = some (cA, .byte)) {i : Int32} (hin : vp_in i n) (hdg : decode cc pc = .ok (.baload, 1))
    (kk : W p l e R s m args below meth c H locs cells slots Q (F0 m (pc + 1) ls (.int (f i.toNatClampNeg) :: rest))) : W p l e R s m args below meth c H locs cells slots Q (F0 m pc ls (.int i :: .ref a :: rest)) :=
  va_bald hE.1 hE.2.1 hE.2.2.2.2 (hP.1.one ha) 0 t0 rfl ht hin hdg kk
theorem mw_zald (hE : mw_E p c cc s args Ts own m D cl tys) (hP : mw_Q A D cl M H) (t0 : Nat) {cA : ClassId} {n : Nat} {f : Nat → Int32} (ha : M a = some (.inl (cA, n, .inl f))) (ht : tys[t0]? = some (cA, .boolean)) {i : Int32} (hin : vp_in i n) (hdg : decode cc pc = .ok (.baload, 1))
    (kk : W p l e R s m args below meth c H locs cells slots Q (F0 m (pc + 1) ls (.int (f i.toNatClampNeg) :: rest))) : W p l e R s m args below meth c H locs cells slots Q (F0 m pc ls (.int i :: .ref a :: rest)) :=
  va_zald hE.1 hE.2.1 hE.2.2.2.2 (hP.1.one ha) 0 t0 rfl ht hin hdg kk
theorem mw_aald (hE : mw_E p c cc s args Ts own m D cl tys) (hP : mw_Q A D cl M H) (t0 : Nat) {cA : ClassId} {C : String} {n : Nat} {f : Nat → Option Nat} (ha : M a = some (.inl (cA, n, .inr (.inr (.inr (.inr f)))))) (ht : tys[t0]? = some (cA, .object C)) {i : Int32} (hin : vp_in i n) (hdg : decode cc pc = .ok (.aaload, 1))
    (kk : W p l e R s m args below meth c H locs cells slots Q (F0 m (pc + 1) ls (va_rf (f i.toNatClampNeg) :: rest))) : W p l e R s m args below meth c H locs cells slots Q (F0 m pc ls (.int i :: .ref a :: rest)) :=
  va_aldq hE.1 hE.2.1 hE.2.2.2.2 (hP.1.one ha) 0 t0 rfl ht hin hdg kk
theorem mw_alen (hE : mw_E p c cc s args Ts own m D cl tys) (hP : mw_Q A D cl M H) (t0 : Nat) {cA : ClassId} {x : vp_A} (ha : M a = some (.inl (cA, x))) {ty : FieldType} (ht : tys[t0]? = some (cA, ty)) {v : Int32} (hv : Int32.ofNat x.1 = v) (hdg : decode cc pc = .ok (.arraylength, 1))
    (kk : W p l e R s m args below meth c H locs cells slots Q (F0 m (pc + 1) ls (.int v :: rest))) : W p l e R s m args below meth c H locs cells slots Q (F0 m pc ls (.ref a :: rest)) :=
  va_alen hE.1 hE.2.1 hE.2.2.2.2 (hP.1.one ha) 0 t0 rfl ht hv hdg kk
theorem mw_iast (hE : mw_E p c cc s args Ts own m D cl tys) (hP : mw_Q A D cl M H) (hS : va_S A H0 H locs) (t0 : Nat) {cA : ClassId} {n : Nat} {f : Nat → Int32} (ha : M a = some (.inl (cA, n, .inl f))) (ht : tys[t0]? = some (cA, .int)) {i : Int32} {x : Int32} (hin : vp_in i n) (hdg : decode cc pc = .ok (.iastore, 1))
    (kk : ∀ (H1 : Heap) (locs1 : List Loc), mw_Q A D cl (mw_up M a (.inl (cA, n, .inl (upd f i.toNatClampNeg x)))) H1 → va_S A H0 H1 locs1 → W p l e R s m args below meth c H1 locs1 cells slots Q (F0 m (pc + 1) ls rest)) : W p l e R s m args below meth c H locs cells slots Q (F0 m pc ls (.int x :: .int i :: .ref a :: rest)) := by
  obtain ⟨hexec, hb, -, -, hK⟩ := hE
  refine W.iast hexec hb (hP.1 a _ ha) ((hK.2 t0 _ ht).1 n (fun j => .int (f j))) (fun q => by cases q) (by show ¬ (i < 0 ∨ (arrV _ _ _).slots.size ≤ _); rw [arrV_size]; exact hin) rfl rfl hdg fun H1 e z oq => ?_
  refine kk H1 _ (hP.set ha ?_ oq) (hS.put z oq (hP.2 a _ ha))
  show H1[a]? = some (vp_cell _ _)
  rw [e, vp_cell_i, vp_cell_i, arrV_store]
  congr 2
  funext q
  by_cases hq : q = i.toNatClampNeg
  · subst hq
    simp [updV, upd]
    try rfl
  · simp [updV, upd, hq]
theorem mw_bast (hE : mw_E p c cc s args Ts own m D cl tys) (hP : mw_Q A D cl M H) (hS : va_S A H0 H locs) (t0 : Nat) {cA : ClassId} {n : Nat} {f : Nat → Int32} (ha : M a = some (.inl (cA, n, .inl f))) (ht : tys[t0]? = some (cA, .byte)) {i : Int32} {x : Int32} (hin : vp_in i n) (hdg : decode cc pc = .ok (.bastore, 1))
    (kk : ∀ (H1 : Heap) (locs1 : List Loc), mw_Q A D cl (mw_up M a (.inl (cA, n, .inl (upd f i.toNatClampNeg (vp_nar .byte x))))) H1 → va_S A H0 H1 locs1 → W p l e R s m args below meth c H1 locs1 cells slots Q (F0 m (pc + 1) ls rest)) : W p l e R s m args below meth c H locs cells slots Q (F0 m pc ls (.int x :: .int i :: .ref a :: rest)) := by
  obtain ⟨hexec, hb, -, -, hK⟩ := hE
  refine W.bast hexec hb (hP.1 a _ ha) ((hK.2 t0 _ ht).1 n (fun j => .int (f j))) (fun q => by cases q) (by show ¬ (i < 0 ∨ (arrV _ _ _).slots.size ≤ _); rw [arrV_size]; exact hin) rfl rfl hdg fun H1 e z oq => ?_
  refine kk H1 _ (hP.set ha ?_ oq) (hS.put z oq (hP.2 a _ ha))
  show H1[a]? = some (vp_cell _ _)
  rw [e, vp_cell_i, vp_cell_i, arrV_store]
  congr 2
  funext q
  by_cases hq : q = i.toNatClampNeg
  · subst hq
    simp [updV, upd, vp_nar]
    try rfl
  · simp [updV, upd, hq]
theorem mw_zast (hE : mw_E p c cc s args Ts own m D cl tys) (hP : mw_Q A D cl M H) (hS : va_S A H0 H locs) (t0 : Nat) {cA : ClassId} {n : Nat} {f : Nat → Int32} (ha : M a = some (.inl (cA, n, .inl f))) (ht : tys[t0]? = some (cA, .boolean)) {i : Int32} {x : Int32} (hin : vp_in i n) (hdg : decode cc pc = .ok (.bastore, 1))
    (kk : ∀ (H1 : Heap) (locs1 : List Loc), mw_Q A D cl (mw_up M a (.inl (cA, n, .inl (upd f i.toNatClampNeg (vp_nar .boolean x))))) H1 → va_S A H0 H1 locs1 → W p l e R s m args below meth c H1 locs1 cells slots Q (F0 m (pc + 1) ls rest)) : W p l e R s m args below meth c H locs cells slots Q (F0 m pc ls (.int x :: .int i :: .ref a :: rest)) := by
  obtain ⟨hexec, hb, -, -, hK⟩ := hE
  refine W.zast hexec hb (hP.1 a _ ha) ((hK.2 t0 _ ht).1 n (fun j => .int (f j))) (fun q => by cases q) (by show ¬ (i < 0 ∨ (arrV _ _ _).slots.size ≤ _); rw [arrV_size]; exact hin) rfl rfl hdg fun H1 e z oq => ?_
  refine kk H1 _ (hP.set ha ?_ oq) (hS.put z oq (hP.2 a _ ha))
  show H1[a]? = some (vp_cell _ _)
  rw [e, vp_cell_i, vp_cell_i, arrV_store]
  congr 2
  funext q
  by_cases hq : q = i.toNatClampNeg
  · subst hq
    simp [updV, upd, vp_nar]
    try rfl
  · simp [updV, upd, hq]
theorem mw_aast (hE : mw_E p c cc s args Ts own m D cl tys) (hP : mw_Q A D cl M H) (hS : va_S A H0 H locs) (t0 ci : Nat) {cA : ClassId} {r : vw_C} {n v : Nat} {vs : List Value} {f : Nat → Option Nat} (ha : M a = some (.inl (cA, n, .inr (.inr (.inr (.inr f)))))) (ht : tys[t0]? = some (cA, .object r.1)) (hv : M v = some (.inr (ci, vs))) (hc : cl[ci]? = some r) {i : Int32} (hin : vp_in i n) (hdg : decode cc pc = .ok (.aastore, 1))
    (kk : ∀ (H1 : Heap) (locs1 : List Loc), mw_Q A D cl (mw_up M a (.inl (cA, n, .inr (.inr (.inr (.inr (va_up f i.toNatClampNeg (some v)))))))) H1 → va_S A H0 H1 locs1 → W p l e R s m args below meth c H1 locs1 cells slots Q (F0 m (pc + 1) ls rest)) : W p l e R s m args below meth c H locs cells slots Q (F0 m pc ls (.ref v :: .int i :: .ref a :: rest)) := by
  obtain ⟨hexec, hb, -, -, hK⟩ := hE
  have hlt : i.toNatClampNeg < n := Nat.not_le.mp fun q => hin (Or.inr q)
  have h0 : ¬ i < 0 := fun q => hin (Or.inl q)
  obtain ⟨r', hr', cellV, g1, g2, g3, -⟩ := hP.1 v _ hv
  have hcls := (hK.1 ci r hc).2
  obtain ⟨kA, comp, k1, k2, k3, -⟩ := (hK.2 t0 _ ht).2
  have hcomp : comp = D.1 ci := Option.some.inj (k3.symm.trans hcls.1)
  subst hcomp
  obtain ⟨kC, hkC, -⟩ := hcls.2
  refine W.aast hexec hb (hP.1 a _ ha) (fun q h => by cases h) (fun h => by cases h) k1 k2 rfl hkC ⟨h0, by show _ < (arrV _ _ _).slots.size; rw [arrV_size]; exact hlt⟩ g1 (fun q h => by rw [g3] at h; cases h) (by rw [g2]; exact hkC) (by rw [g2]; exact va_assign hcls) rfl rfl hdg fun H1 e z oq => ?_
  refine kk H1 _ (hP.set ha ?_ oq) (hS.put z oq (hP.2 a _ ha))
  show H1[a]? = some (vp_cell _ _)
  rw [e, vp_cell_q, vp_cell_q, arrV_store]
  congr 2
  funext q
  by_cases hq : q = i.toNatClampNeg
  · subst hq
    simp [updV, va_up, va_rf]
  · simp [updV, va_up, hq]
/-- a new array of numbers: its class is the one that the tables' list has -/
theorem mw_newa (hE : mw_E p c cc s args Ts own m D cl tys) {atype : ArrayType} (harr : (Cond.arrayClass (newarray.typeOf atype)).before args s = true) {ty : FieldType} (hty : newarray.typeOf atype = ty) (hnm : ∀ (U : State) (cA : ClassId), va_RA U cA ty → U.vm.findClass ("[" ++ ty.toString) = some cA) (hP : mw_Q A D cl M H) (hS : va_S A H0 H locs) (hA : ∀ q, H0.size ≤ q → A q) (t0 : Nat) {cA : ClassId} (ht : tys[t0]? = some (cA, ty))
    {n : Int32} {N' : Nat} {a0 : vp_A} (ha : vp_cell cA a0 = arrV cA N' (fun _ => defaultValue ty)) (hn : ¬ n < 0) (hN : n.toNatClampNeg = N') (hbytes : N' * componentBytes ty ≤ 536870912) (hcells : cells + 1 ≤ R.cells) (hslots : slots + N' ≤ R.slots) (hdg : decode cc pc = .ok (.newarray atype, 2))
    (kk : ∀ (q : Nat) (H1 : Heap), M q = none → mw_Q A D cl (mw_up M q (.inl (cA, a0))) H1 → va_S A H0 H1 locs →
      W p l e R s m args below meth c H1 locs (cells + 1) (slots + N') Q (F0 m (pc + 2) ls (.ref q :: rest))) : W p l e R s m args below meth c H locs cells slots Q (F0 m pc ls (.int n :: rest)) := by
  obtain ⟨hexec, hb, -, -, hK⟩ := hE
  subst hty
  refine va_newaK hexec hb harr rfl hdg rfl hn hN hbytes hcells hslots rfl fun H1 cB e1 z1 o1 hAr hNm => ?_
  have hcc : cB = cA := Option.some.inj (hNm.symm.trans (hnm s cA (hK.2 t0 _ ht).2))
  subst hcc
  refine kk H.size H1 (mw_fresh hP.1) (hP.push (hA _ hS.1) ?_ o1) ⟨Nat.le_trans hS.1 (by omega), fun x h1 h2 => (o1 x (Nat.lt_of_lt_of_le h1 hS.1)).trans (hS.2.1 x h1 h2), hS.2.2⟩
  show H1[H.size]? = some (vp_cell _ _)
  rw [ha]
  exact e1
theorem mw_newq (hE : mw_E p c cc s args Ts own m D cl tys) {C : String} {index : Nat} (hclink : (Cond.classLink own index C).before args s = true) (hover : (Cond.arrayOver (.object C)).before args s = true) (hP : mw_Q A D cl M H) (hS : va_S A H0 H locs) (hA : ∀ q, H0.size ≤ q → A q) (t0 : Nat) {cA : ClassId} (ht : tys[t0]? = some (cA, .object C))
    {n : Int32} {N' : Nat} (hn : ¬ n < 0) (hN : n.toNatClampNeg = N') (hbytes : N' * 4 ≤ 536870912) (hcells : cells + 1 ≤ R.cells) (hslots : slots + N' ≤ R.slots) (hdg : decode cc pc = .ok (.anewarray index, 3))
    (kk : ∀ (q : Nat) (H1 : Heap), M q = none → mw_Q A D cl (mw_up M q (.inl (cA, N', .inr (.inr (.inr (.inr (fun _ => none))))))) H1 → va_S A H0 H1 locs →
      W p l e R s m args below meth c H1 locs (cells + 1) (slots + N') Q (F0 m (pc + 3) ls (.ref q :: rest))) : W p l e R s m args below meth c H locs cells slots Q (F0 m pc ls (.int n :: rest)) := by
  obtain ⟨hexec, hb, -, hown, hK⟩ := hE
  subst hN
  refine W.anew hexec hb hown hclink hover rfl hdg rfl hn hbytes hcells hslots fun cB kA comp f1 f2 f3 f4 => ?_
  obtain ⟨_, _, _, _, _, k4⟩ := (hK.2 t0 _ ht).2
  have hcc : cB = cA := Option.some.inj (f1.symm.trans k4)
  subst hcc
  generalize hH1 : H.push ({ cls := cB, slots := Array.replicate n.toNatClampNeg .null, vm := .none } : Cell) = H1
  have z1 : H1.size = H.size + 1 := by rw [← hH1, Array.size_push]
  have e1 : H1[H.size]? = some (arrV cB n.toNatClampNeg (fun _ => .null)) := by rw [← hH1, Array.getElem?_push_size, ← arrV_new]
  have o1 : ∀ q : Nat, q < H.size → H1[q]? = H[q]? := fun q hq => by rw [← hH1, Array.getElem?_push, if_neg (Nat.ne_of_lt hq)]
  refine kk H.size H1 (mw_fresh hP.1) (hP.push (hA _ hS.1) ?_ o1) ⟨Nat.le_trans hS.1 (by omega), fun x h1 h2 => (o1 x (Nat.lt_of_lt_of_le h1 hS.1)).trans (hS.2.1 x h1 h2), hS.2.2⟩
  show H1[H.size]? = some (vp_cell _ _)
  rw [vp_cell_q]
  exact e1
theorem mw_new (hE : mw_E p c cc s args Ts own m D cl tys) {C : String} {T : u_T} {N ci index : Nat} (hin : ∀ w ∈ u_ws C T N, w ∈ Ts) (ty : Nat → FieldType) (hty : ∀ k, k < N → parseFieldDescriptor (T k).2.2.1 = some (ty k)) (hcl : (Cond.classLink own index C).before args s = true) (hinst : (Cond.instantiable C N).before args s = true) (hini : (Cond.initialized C).before args s = true)
    (hP : mw_Q A D cl M H) (hS : va_S A H0 H locs) (hA : ∀ q, H0.size ≤ q → A q) (hc : cl[ci]? = some (C, T, N)) {fs : List Value} (hfs : ∀ j, j < N → defaultValue (ty j) = vp_V fs j) (hcells : cells + 1 ≤ R.cells) (hslots : slots + N ≤ R.slots) (hdg : decode cc pc = .ok (.new index, 3))
    (kk : ∀ (q : Nat) (H1 : Heap), M q = none → mw_Q A D cl (mw_up M q (.inr (ci, fs))) H1 → va_S A H0 H1 locs →
      W p l e R s m args below meth c H1 locs (cells + 1) (slots + N) Q (F0 m (pc + 3) ls (.ref q :: rest))) : W p l e R s m args below meth c H locs cells slots Q (F0 m pc ls rest) := by
  obtain ⟨hexec, hb, hts, hown, hK⟩ := hE
  have hKn := hK.1 ci _ hc
  refine W.newcK hexec hb hown hcl hinst hini rfl hdg hcells hslots hKn.2.1 rfl fun H1 kC hkC e1 z1 o1 => ?_
  refine kk H.size H1 (mw_fresh hP.1) (hP.push (hA _ hS.1) ?_ o1) ⟨Nat.le_trans hS.1 (by omega), fun x h1 h2 => (o1 x (Nat.lt_of_lt_of_le h1 hS.1)).trans (hS.2.1 x h1 h2), hS.2.2⟩
  exact ⟨_, hc, (u_born ty hts hin hKn hkC e1 hty).to hfs⟩
theorem mw_recv (hE : mw_E p c cc s args Ts own m D cl tys) (hP : mw_Q A D cl M H) {ci : Nat} {q : vw_C} {fs : List Value} (hc : cl[ci]? = some q) (he : M a = some (.inr (ci, fs))) : ∃ cell : Cell, H[a]? = some cell ∧ cell.vm.isStatics = false ∧ s.vm.findClass q.1 = some cell.cls :=
  va_recv hE.2.2.2.2 (hP.1.one he) hc (q0 := 0) rfl
end MW
/-- a contract's start and end over a map -/
def mw_U (D : va_G) (cl : List vw_C) (tys : List (ClassId × FieldType)) (M : mw) (sz : Nat) (U : State) : Prop := U.heap.size = sz ∧ mw_P D cl M U.heap ∧ va_K D cl tys U
def mw_B (D : va_G) (cl : List vw_C) (M : mw) (sz : Nat) (M1 : mw) (t : State) : Prop := mw_P D cl M1 t.heap ∧ mw_I (mw_A M sz) M1
theorem mw_blind {D : va_G} {cl : List vw_C} {tys : List (ClassId × FieldType)} {M : mw} {sz : Nat} {av : List Value} : FrameBlind (va_Pc av (mw_U D cl tys M sz)) := fun a U g mk q => by
  obtain ⟨q0, q1, qP, qK⟩ := q
  exact ⟨q0, q1, qP, va_K.moved (u := U) (U := U.calling g mk a) (Vm.Alike.refl U.vm) qK⟩
section MWC
variable {p : Program} {l : Launch} {e : Env} {R : Room} {s : State} {m : MethodId} {args : Array Value} {below : List Frame} {meth : Method} {c : Code} {H : Heap} {locs : List Loc} {cells slots mc ms : Nat} {Q : State → Prop}
variable {cc : ByteArray} {pc : Nat} {ls : Array Slot} {rest st0 : List Value} {D : va_G} {cl : List vw_C} {A : Nat → Prop} {a : Nat} {av : Array Value} {tys : List (ClassId × FieldType)} {M : mw} {H0 : Heap} {Ts : List Cond} {own : String}
theorem mw_preV (hE : mw_E p c cc s args Ts own m D cl tys) (hP : mw_Q A D cl M H) {ci : Nat} {C : String} {q : vw_C} {fs : List Value} (hc : cl[ci]? = some q) (hq : q.1 = C) (he : M a = some (.inr (ci, fs))) (As : List Value) : PreV s H C a (va_Pc (.ref a :: As) (mw_U D cl tys M H.size)) As := by
  subst hq
  exact ⟨mw_blind, mw_recv hE hP hc he, fun U hU hW => ⟨rfl, by rw [hU], by rw [hU]; exact hP.1, va_K.moved hW.alike hE.2.2.2.2⟩⟩
theorem mw_preS (hE : mw_E p c cc s args Ts own m D cl tys) (hP : mw_Q A D cl M H) (As : List Value) : PreS s H (va_Pc As (mw_U D cl tys M H.size)) As :=
  ⟨mw_blind, fun U hU hW => ⟨rfl, by rw [hU], by rw [hU]; exact hP.1, va_K.moved hW.alike hE.2.2.2.2⟩⟩
theorem mw_back (hP : mw_Q A D cl M H) (hS : va_S A H0 H locs) (hA : ∀ q, H0.size ≤ q → A q) {M1 : mw} {t : State} {H1 : Heap} (ht : t.heap = H1) (hB : mw_B D cl M H.size M1 t) : mw_Q A D cl M1 H1 := by
  subst ht
  exact ⟨hB.1, fun x ex hx => mw_A.le hP hS hA x (hB.2 x ex hx)⟩
theorem mw_calli {post : Int32 → mw → Prop} (hP : mw_Q A D cl M H) (hS : va_S A H0 H locs) (hA : ∀ q, H0.size ≤ q → A q) (hr : va_Run p l e R s m args below meth c H locs cells slots mc ms (F0 m pc ls st0) rest (va_Qi post (mw_B D cl M H.size) (mw_A M H.size) av) (mw_A M H.size))
    (kk : ∀ (r : Int32) (M1 : mw) (H1 : Heap) (locs1 : List Loc), post r M1 → mw_Q A D cl M1 H1 → va_S A H0 H1 locs1 → W p l e R s m args below meth c H1 locs1 (cells + mc) (slots + ms) Q (F0 m (pc + 3) ls (.int r :: rest))) : W p l e R s m args below meth c H locs cells slots Q (F0 m pc ls st0) :=
  va_calli hr hS (fun q _ h => mw_A.le hP hS hA q h) (mw_A.le hP hS hA) (fun r M1 _ H1 locs1 ht _ hp hB _ _ hS1 => kk r M1 H1 locs1 hp (mw_back hP hS hA ht hB) hS1)
theorem mw_callv {post : mw → Prop} (hP : mw_Q A D cl M H) (hS : va_S A H0 H locs) (hA : ∀ q, H0.size ≤ q → A q) (hr : va_Run p l e R s m args below meth c H locs cells slots mc ms (F0 m pc ls st0) rest (va_Qv post (mw_B D cl M H.size) (mw_A M H.size) av) (mw_A M H.size))
    (kk : ∀ (M1 : mw) (H1 : Heap) (locs1 : List Loc), post M1 → mw_Q A D cl M1 H1 → va_S A H0 H1 locs1 → W p l e R s m args below meth c H1 locs1 (cells + mc) (slots + ms) Q (F0 m (pc + 3) ls rest)) : W p l e R s m args below meth c H locs cells slots Q (F0 m pc ls st0) :=
  va_callv hr hS (fun q _ h => mw_A.le hP hS hA q h) (mw_A.le hP hS hA) (fun M1 _ H1 locs1 ht _ hp hB _ _ hS1 => kk M1 H1 locs1 hp (mw_back hP hS hA ht hB) hS1)
end MWC
section MWD
variable {p : Program} {l : Launch} {e : Env} {R : Room} {s : State} {m : MethodId} {args : Array Value} {below : List Frame} {meth : Method} {c : Code} {H : Heap} {locs : List Loc} {cells slots mc ms : Nat} {Q : State → Prop}
variable {cc : ByteArray} {pc : Nat} {ls : Array Slot} {rest st0 : List Value} {D : va_G} {cl : List vw_C} {A : Nat → Prop} {a : Nat} {av : Array Value} {tys : List (ClassId × FieldType)} {M M0 : mw} {H0 : Heap} {Ts : List Cond} {own : String}
theorem mw_callq {post : Option Nat → mw → Prop} (hP : mw_Q A D cl M H) (hS : va_S A H0 H locs) (hA : ∀ q, H0.size ≤ q → A q) (hr : va_Run p l e R s m args below meth c H locs cells slots mc ms (F0 m pc ls st0) rest (va_Qq post (mw_B D cl M H.size) (mw_A M H.size) av) (mw_A M H.size))
    (kk : ∀ (r : Option Nat) (M1 : mw) (H1 : Heap) (locs1 : List Loc), post r M1 → mw_Q A D cl M1 H1 → va_S A H0 H1 locs1 → W p l e R s m args below meth c H1 locs1 (cells + mc) (slots + ms) Q (F0 m (pc + 3) ls (va_rf r :: rest))) : W p l e R s m args below meth c H locs cells slots Q (F0 m pc ls st0) :=
  va_callq hr hS (fun q _ h => mw_A.le hP hS hA q h) (mw_A.le hP hS hA) (fun r M1 _ H1 locs1 ht _ hp hB _ _ hS1 => kk r M1 H1 locs1 hp (mw_back hP hS hA ht hB) hS1)
/-- the ends -/
theorem mw_iret (hE : mw_E p c cc s args Ts own m D cl tys) {post : Int32 → mw → Prop} {v : Int32} (hr : meth.sig.returnType = some .int) (hlocks : meth.locks = false) (hP : mw_Q (mw_A M0 s.heap.size) D cl M H) (hS : va_S (mw_A M0 s.heap.size) s.heap H locs) (hdg : decode cc pc = .ok (.ireturn, 1)) (hp : post v M) :
    W p l e R s m args below meth c H locs cells slots (MQ below (va_Qi post (mw_B D cl M0 s.heap.size) (mw_A M0 s.heap.size)) args s cells slots (mw_A M0 s.heap.size)) (F0 m pc ls [.int v]) :=
  W.iret (v := v) hE.1 hE.2.1 hr (fun _ ht _ => ⟨⟨v, M, rfl, hp, by rw [ht]; exact hP.1, hP.2⟩, hS.F ht⟩) hS.2.2 hdg hlocks
theorem mw_zret (hE : mw_E p c cc s args Ts own m D cl tys) {post : Int32 → mw → Prop} {v : Int32} {ty : FieldType} (hr : meth.sig.returnType = some ty) (hlocks : meth.locks = false) (hP : mw_Q (mw_A M0 s.heap.size) D cl M H) (hS : va_S (mw_A M0 s.heap.size) s.heap H locs) (hdg : decode cc pc = .ok (.ireturn, 1)) (hn : narrow ty (.int v) = .int v) (hp : post v M) :
    W p l e R s m args below meth c H locs cells slots (MQ below (va_Qi post (mw_B D cl M0 s.heap.size) (mw_A M0 s.heap.size)) args s cells slots (mw_A M0 s.heap.size)) (F0 m pc ls [.int v]) :=
  W.zret (v := v) hE.1 hE.2.1 hr hn (fun _ ht _ => ⟨⟨v, M, rfl, hp, by rw [ht]; exact hP.1, hP.2⟩, hS.F ht⟩) hS.2.2 hdg hlocks
theorem mw_vret (hE : mw_E p c cc s args Ts own m D cl tys) {post : mw → Prop} (hr : meth.sig.returnType = none) (hlocks : meth.locks = false) (hP : mw_Q (mw_A M0 s.heap.size) D cl M H) (hS : va_S (mw_A M0 s.heap.size) s.heap H locs) (hdg : decode cc pc = .ok (.return_, 1)) (hp : post M) :
    W p l e R s m args below meth c H locs cells slots (MQ below (va_Qv post (mw_B D cl M0 s.heap.size) (mw_A M0 s.heap.size)) args s cells slots (mw_A M0 s.heap.size)) (F0 m pc ls []) :=
  W.vret hE.1 hE.2.1 hr (fun _ ht _ => ⟨⟨M, rfl, hp, by rw [ht]; exact hP.1, hP.2⟩, hS.F ht⟩) hS.2.2 hdg hlocks
theorem mw_aret (hE : mw_E p c cc s args Ts own m D cl tys) {post : Option Nat → mw → Prop} {r : Option Nat} {n : String} (hr : meth.sig.returnType = some (.object n)) (hlocks : meth.locks = false) (hP : mw_Q (mw_A M0 s.heap.size) D cl M H) (hS : va_S (mw_A M0 s.heap.size) s.heap H locs) (hdg : decode cc pc = .ok (.areturn, 1)) (hp : post r M) :
    W p l e R s m args below meth c H locs cells slots (MQ below (va_Qq post (mw_B D cl M0 s.heap.size) (mw_A M0 s.heap.size)) args s cells slots (mw_A M0 s.heap.size)) (F0 m pc ls [va_rf r]) :=
  W.aret (v := va_rf r) hE.1 hE.2.1 hr (Or.inl ⟨n, rfl⟩) (va_rf_or r) (fun _ ht _ => ⟨⟨r, M, rfl, hp, by rw [ht]; exact hP.1, hP.2⟩, hS.F ht⟩) hS.2.2 hdg hlocks
/-- a contract out of its body's walk -/
theorem mw_met {y : MethodName} {ws ws' : List Cond} {rm : Room} {Qc : Array Value → State → Outcome → State → Prop} {maxL sz : Nat} {ret : Option FieldType} {vs : List Value} {lv : List (Nat × Value)}
    (hy : plainName y.cls = true) (hw : ws = Cond.code y cc maxL ret :: ws') (hn : (lg_sl vs).length ≤ maxL) (hlv : lv_args 0 vs = lv)
    (body : ∀ (p : Program) (e : Env) (s : State) (m : MethodId) (below : List Frame) (meth : Method) (c : Code) (ls : Array Slot), mw_E p c cc s vs.toArray ws y.cls m D cl tys → meth.sig.returnType = ret → meth.locks = false → meth.name = y.name → c.maxLocals = maxL → s.heap.size = sz → mw_Q (mw_A M sz) D cl M s.heap → va_S (mw_A M sz) s.heap s.heap [] → lv_has ls maxL lv →
      W p l e rm s m vs.toArray below meth c s.heap [] 0 0 (MQ below Qc vs.toArray s mc ms (mw_A M sz)) (F0 m 0 ls [])) : Met l y ws rm (va_Pc vs (mw_U D cl tys M sz)) Qc mc ms (mw_A M sz) := by
  refine Met.ofW hy hw ?_
  intro p e s m args below meth c s₁ B hml hv
  obtain ⟨rfl, hsz, hP, hK⟩ := hv
  rw [lg_entry_eq]
  exact body p e s m below meth c _ ⟨B.exec, B.bytes, atoms_spec (ws := ws) B.pre, findClass_of_methodNamed B.named, hK⟩ B.returns B.notSynchronized (name_of_methodNamed B.named B.method).1 hml hsz ⟨hP, mw_I.self⟩ va_S.rf (hlv ▸ lv_entry vs hn)
end MWD
