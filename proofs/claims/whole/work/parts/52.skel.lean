/-! THE CLAIM OUT OF ONE WALK OF THE LAW'S BODY. Your part is whole_start (and what it stands on); all else here is the same for every law, but numbers. -/
def R_law : String := "CodePagesLaw"
def lw_P (b : Addr) (xs : List Int32) (args : Array Value) (s : State) : Prop := args = #[.ref b] ∧ s.IntsAt b xs ∧ xs.length ≤ 2048 ∧ (Jvm.Cond.and given_1 narrow_1).before args s = true
/-! the room's two numbers are read off the statement, not written here: they may differ by one from one turn to the next -/
theorem lw_rc {a : Nat} (h : a ≤ 600000) : a ≤ room_1.cells := Nat.le_trans h (Nat.le_of_ble_eq_true rfl)
theorem lw_rs {a : Nat} (h : a ≤ 7000000) : a ≤ room_1.slots := Nat.le_trans h (Nat.le_of_ble_eq_true rfl)
def lw_Q (_ : Array Value) (s : State) (o : Outcome) (t : State) : Prop := o = .returned (some (.int 1)) ∧ Framed s o t [] room_1.cells room_1.slots
def lw_Z (below : List Frame) (a : Array Value) (s : State) : State → Prop := fun t => ∃ o, t.status = .running ∧ Ended t below o ∧ lw_Q a s o t
/-- the law's own end, with 1 on the stack, nothing written that was there before, its room as the claim has it -/
theorem lw_ret {p : Program} {l : Launch} {e : Env} {s : State} {m : MethodId} {below : List Frame} {meth : Method} {c : Code} {b : Nat} (hx : p.tables.exec = Jvm.exec) (hb : c.code = code) (hr : meth.sig.returnType = ret) (hlocks : meth.locks = false) {pc : Nat} {H : Heap} {ls : Array Slot} (hdg : decode code pc = .ok (.ireturn, 1)) : W p l e room_1 s m #[Value.ref b] below meth c H [] room_1.cells room_1.slots (lw_Z below #[Value.ref b] s) (F0 m pc ls [.int 1]) := by
  intro T hT X
  obtain ⟨fs, hret, hrun, hended, hW, hframe⟩ := X.leave (v := some (.int 1)) (hlocks := hlocks) (fun h => by rw [hr] at h; cases h)
  have hmeth' : T.vm.method? m = some meth := X.method'
  refine ⟨T.setFrames fs, ?_, .returned (some (.int 1)), hrun, hended, rfl, ⟨_, rfl⟩, hW, hframe⟩
  jvm_step X.here [X.here.top, hx, hb, hdg, hmeth', hr, ret, narrow_b1]
  (try refine ⟨rfl, ?_⟩); (try refine ⟨rfl, ?_⟩)
  first | (intro acts; rw [hret _ acts rfl rfl rfl]) | rw [hret _ _ rfl rfl rfl]
  exact Steps.refl _
/-- what holds at the law's entry: the machine, the code, the tables' words (any of lw_tbl by 'hts w (by decide +kernel)'), the script of L ints xs at the cell b, what the Statement gives of the start (any of its parts by flat_of_before) -/
def lw_At (p : Program) (s : State) (m : MethodId) (meth : Method) (c : Code) (b L : Nat) (xs : Nat → Int32) : Prop :=
  p.tables.exec = Jvm.exec ∧ c.code = code ∧ meth.sig.returnType = ret ∧ c.maxLocals = 7 ∧ s.vm.findClass R_law = some m.cls ∧ (∀ w ∈ lw_tbl, w.before #[Value.ref b] s = true) ∧ va_X b L xs s s.heap ∧ b < s.heap.size ∧ meth.locks = false ∧ (Jvm.Cond.and given_1 narrow_1).before #[Value.ref b] s = true
/-! worlds side by side at the law: maps apart from each other -/
def dj (M N : mw) : Prop := ∀ (x : Nat) (e e2 : va_E), M x = some e → N x = some e2 → False
theorem dj.symm {M N : mw} (h : dj M N) : dj N M := fun x e e2 h1 h2 => h x e2 e h2 h1
theorem dj.sub {M N M2 : mw} (h : dj M N) (hs : ∀ x e, M2 x = some e → M x = some e) : dj M2 N := fun x e e2 h1 h2 => h x e e2 (hs x e h1) h2
theorem mw_Q.mono {A : Nat → Prop} {D : va_G} {cl : List vw_C} {M N : mw} {H : Heap} (h : mw_Q A D cl M H) (hs : ∀ x e, N x = some e → M x = some e) : mw_Q A D cl N H := ⟨fun x e hx => h.1 x e (hs x e hx), fun x e hx => h.2 x e (hs x e hx)⟩
theorem dj_after {D : va_G} {cl : List vw_C} {M N M1 : mw} {H : Heap} (hN : mw_P D cl N H) (d : dj M N) (hI : mw_I (mw_A M H.size) M1) : dj M1 N := fun x e e2 h1 h2 => by
  rcases hI x e h1 with ⟨e3, h3⟩ | h3
  · exact d x e3 e2 h3 h2
  · exact absurd (hN.lt h2) (by omega)
theorem kept_after {A : Nat → Prop} {D : va_G} {cl : List vw_C} {M N : mw} {H H1 : Heap} (hN : mw_Q A D cl N H) (d : dj M N) (hk : ∀ q : Nat, q < H.size → ¬ mw_A M H.size q → H1[q]? = H[q]?) : mw_Q A D cl N H1 :=
  ⟨hN.1.kept (fun a e ha => hk a (hN.1.lt ha) (fun h => by
    rcases h with ⟨e3, h3⟩ | h3
    · exact d a e3 e h3 ha
    · exact absurd (hN.1.lt ha) (by omega))), hN.2⟩
section LW
variable {p : Program} {l : Launch} {e : Env} {R : Room} {s : State} {m : MethodId} {args : Array Value} {below : List Frame} {meth : Method} {c : Code} {H : Heap} {locs : List Loc} {cells slots mc ms : Nat} {Q : State → Prop}
variable {cc : ByteArray} {pc : Nat} {ls : Array Slot} {rest st0 : List Value} {D : va_G} {cl : List vw_C} {A : Nat → Prop} {av : Array Value} {M N1 N2 : mw} {H0 : Heap}
theorem lw_calli {post : Int32 → mw → Prop} (hP : mw_Q A D cl M H) (h1 : mw_Q A D cl N1 H) (h2 : mw_Q A D cl N2 H) (d1 : dj M N1) (d2 : dj M N2) (hS : va_S A H0 H locs) (hA : ∀ q, H0.size ≤ q → A q) (hr : va_Run p l e R s m args below meth c H locs cells slots mc ms (F0 m pc ls st0) rest (va_Qi post (mw_B D cl M H.size) (mw_A M H.size) av) (mw_A M H.size))
    (kk : ∀ (r : Int32) (M1 : mw) (H1 : Heap) (locs1 : List Loc), post r M1 → mw_Q A D cl M1 H1 → mw_Q A D cl N1 H1 → mw_Q A D cl N2 H1 → dj M1 N1 → dj M1 N2 → va_S A H0 H1 locs1 → W p l e R s m args below meth c H1 locs1 (cells + mc) (slots + ms) Q (F0 m (pc + 3) ls (.int r :: rest))) : W p l e R s m args below meth c H locs cells slots Q (F0 m pc ls st0) :=
  va_calli hr hS (fun q _ h => mw_A.le hP hS hA q h) (mw_A.le hP hS hA) (fun r M1 _ H1 locs1 ht _ hp hB _ hk hS1 => kk r M1 H1 locs1 hp (mw_back hP hS hA ht hB) (kept_after h1 d1 hk) (kept_after h2 d2 hk) (dj_after h1.1 d1 hB.2) (dj_after h2.1 d2 hB.2) hS1)
theorem lw_callv {post : mw → Prop} (hP : mw_Q A D cl M H) (h1 : mw_Q A D cl N1 H) (d1 : dj M N1) (hS : va_S A H0 H locs) (hA : ∀ q, H0.size ≤ q → A q) (hr : va_Run p l e R s m args below meth c H locs cells slots mc ms (F0 m pc ls st0) rest (va_Qv post (mw_B D cl M H.size) (mw_A M H.size) av) (mw_A M H.size))
    (kk : ∀ (M1 : mw) (H1 : Heap) (locs1 : List Loc), post M1 → mw_Q A D cl M1 H1 → mw_Q A D cl N1 H1 → dj M1 N1 → va_S A H0 H1 locs1 → W p l e R s m args below meth c H1 locs1 (cells + mc) (slots + ms) Q (F0 m (pc + 3) ls rest)) : W p l e R s m args below meth c H locs cells slots Q (F0 m pc ls st0) :=
  va_callv hr hS (fun q _ h => mw_A.le hP hS hA q h) (mw_A.le hP hS hA) (fun M1 _ H1 locs1 ht _ hp hB _ hk hS1 => kk M1 H1 locs1 hp (mw_back hP hS hA ht hB) (kept_after h1 d1 hk) (dj_after h1.1 d1 hB.2) hS1)
theorem lw_sld (hexec : p.tables.exec = Jvm.exec) (hb : c.code = cc) {b L : Nat} {xs : Nat → Int32} (hX : va_X b L xs s H0) (hbl : b < H0.size) (hbA : ¬ A b) (hS : va_S A H0 H locs) {j : Nat} (hL : L < 2 ^ 31) (hdg : decode cc pc = .ok (.iaload, 1)) (hj : j < L)
    (kk : W p l e R s m args below meth c H locs cells slots Q (F0 m (pc + 1) ls (.int (xs j) :: rest))) : W p l e R s m args below meth c H locs cells slots Q (F0 m pc ls (.int (nI j) :: .ref b :: rest)) := by
  refine va_sld hexec hb hX hbl hbA hS (vp_in_nI hj hL) hdg ?_
  rw [nI_clamp (by omega)]
  exact kk
end LW
/-- the tables at the law's start -/
theorem law_arr {s : State} {args : Array Value} {ty : FieldType} (h : (Cond.arrayClass ty).before args s = true) (hr : ∀ c, va_RA s c ty = (s.vm.findClass ("[" ++ ty.toString) = some c)) : ∃ c, ArrOfT s c ty ∧ va_RA s c ty := by
  obtain ⟨c, kA, comp, h1, h2, h3⟩ := Cond.arrayClass_spec h
  exact ⟨c, fun n z => ⟨fun k h => (by cases h), kA, h2, comp, h3⟩, by rw [hr]; exact h1⟩
theorem law_arrO {s : State} {args : Array Value} {C : String} (h : (Cond.arrayOver (.object C)).before args s = true) : ∃ c, ArrOfT s c (.object C) ∧ va_RA s c (.object C) := by
  obtain ⟨comp, c, kA, h1, -, h3, h4, h5⟩ := Cond.arrayOver_spec h
  exact ⟨c, fun n z => ⟨fun k h => (by cases h), kA, h3, comp, h4⟩, kA, comp, h3, h4, h1, h5⟩
set_option maxRecDepth 100000 in
set_option maxHeartbeats 4000000 in
theorem law_K {s : State} {args : Array Value} (hts : ∀ w ∈ lw_tbl, w.before args s = true) : ∃ (D : va_G) (k : Nat → ClassId), va_K D vwCl (TY k) s ∧ zAO s ∧ va_Nw wNest s := by
  obtain ⟨cJ, iJ, hJ⟩ := u_known (C := RJx00060) (T := TJx00060) (N := 6) (n := 6) hts inJx00060 (hts _ (by decide +kernel))
  obtain ⟨c0, i0, h0⟩ := u_known (C := RX0) (T := TX0) (N := 4) (n := 4) hts inX0 (hts _ (by decide +kernel))
  obtain ⟨c1, i1, h1⟩ := u_known (C := RX1) (T := TX1) (N := 2) (n := 2) hts inX1 (hts _ (by decide +kernel))
  obtain ⟨c2, i2, h2⟩ := u_known (C := RX2) (T := TX2) (N := 2) (n := 2) hts inX2 (hts _ (by decide +kernel))
  obtain ⟨c3, i3, h3⟩ := u_known (C := RX3) (T := TX3) (N := 8) (n := 8) hts inX3 (hts _ (by decide +kernel))
  obtain ⟨c4, i4, h4⟩ := u_known (C := RX4) (T := TX4) (N := 14) (n := 14) hts inX4 (hts _ (by decide +kernel))
  obtain ⟨k0, a0, b0⟩ := law_arr (ty := .int) (hts _ (by decide +kernel)) (fun _ => rfl)
  obtain ⟨k1, a1, b1⟩ := law_arr (ty := .boolean) (hts _ (by decide +kernel)) (fun _ => rfl)
  have o2 := hts (.arrayOver (.object RX1)) (by decide +kernel)
  have o3 := hts (.arrayOver (.object RX0)) (by decide +kernel)
  have o4 := hts (.arrayOver (.object RX2)) (by decide +kernel)
  obtain ⟨k2, a2, b2⟩ := law_arrO o2
  obtain ⟨k3, a3, b3⟩ := law_arrO o3
  obtain ⟨k4, a4, b4⟩ := law_arrO o4
  obtain ⟨k5, a5, b5⟩ := law_arr (ty := .long) (hts _ (by decide +kernel)) (fun _ => rfl)
  refine ⟨(fun c => match c with | 0 => cJ | 1 => c0 | 2 => c1 | 3 => c2 | 4 => c3 | _ => c4, fun c => match c with | 0 => iJ | 1 => i0 | 2 => i1 | 3 => i2 | 4 => i3 | _ => i4), (fun j => match j with | 0 => k0 | 1 => k1 | 2 => k2 | 3 => k3 | 4 => k4 | _ => k5), ⟨fun c q hq => ?_, fun j q hq => ?_⟩, ⟨va_AO.of o2, va_AO.of o3, va_AO.of o4⟩, va_Nw.of rfl (hts wNest (by decide +kernel))⟩
  · match c, hq with
    | 0, hq => cases hq; exact hJ
    | 1, hq => cases hq; exact h0
    | 2, hq => cases hq; exact h1
    | 3, hq => cases hq; exact h2
    | 4, hq => cases hq; exact h3
    | 5, hq => cases hq; exact h4
    | c + 6, hq => simp at hq
  · match j, hq with
    | 0, hq => cases hq; exact ⟨a0, b0⟩
    | 1, hq => cases hq; exact ⟨a1, b1⟩
    | 2, hq => cases hq; exact ⟨a2, b2⟩
    | 3, hq => cases hq; exact ⟨a3, b3⟩
    | 4, hq => cases hq; exact ⟨a4, b4⟩
    | 5, hq => cases hq; exact ⟨a5, b5⟩
    | j + 6, hq => simp at hq
