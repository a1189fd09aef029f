/-! the law's own method row, as the law's loop needs it -/
def R_lrow (k : Nat → ClassId) (n : Nat → Nat) (g : Nat → Nat → Int32) (o : Nat) (f : Nat → Int64) (x y r : Int32) (M M1 : mw) : Prop :=
  (r = 0 ∧ ∃ a j : Nat, a < n 0 ∧ j < 256 ∧ x = nI a ∧ y = nI j ∧ M1 = mw_up M o (.inl (k 5, 1, .inr (.inl (vp_updL f 0 (g 1 (256 * a + j)).toInt64))))) ∨ (r = 1 ∧ ¬ (vp_in x (n 0) ∧ vp_in y 256) ∧ M1 = M)
def RowRun (l : Launch) (D : va_G) (k : Nat → ClassId) : Prop := ∀ (p : Program) (e : Env) (s : State) (m : MethodId) (b0 L0 : Nat) (xs : Nat → Int32) (below : List Frame) (meth : Method) (c : Code) (H : Heap) (locs : List Loc) (cells slots : Nat) (ls : Array Slot) (A : Nat → Prop) (M : mw) (o : Nat) (f : Nat → Int64) (h : Nat → Nat) (b : Nat → Nat → Nat) (T : Nat → Nat × Nat) (n : Nat → Nat) (c9 : Nat → Nat → Nat → Int32) (g : Nat → Nat → Int32) (L : Nat → Nat) (X : Nat → Nat → Nat) (x y : Int32),
  lw_At p s m meth c b0 L0 xs → mw_E p c code s #[Value.ref b0] wsL_law RL m D vwCl (TY k) → ls.size = 7 → cells + 1 ≤ 600000 → slots + 6 ≤ 7000000 → (∀ q, A q ↔ s.heap.size ≤ q) → va_S A s.heap H locs → mw_Q A D vwCl M H → (∀ q e, M q = some e → s.heap.size ≤ q) → cp_R k h b n c9 M → cp_T h b T n → mo_B n → sm n c9 g L X → M o = some (.inl (k 5, 1, .inr (.inl f))) →
  va_Run p l e room_1 s m #[Value.ref b0] below meth c H locs cells slots 1 6 (F0 m 212 ls [.ref o, .int y, .int x, .ref (h 0)]) [] (va_Qi (fun r M1 => R_lrow k n g o f x y r M M1) (mw_B D vwCl M H.size) (mw_A M H.size) #[]) (mw_A M H.size)
section LR
variable {p : Program} {l : Launch} {e : Env} {R : Room} {s : State} {m : MethodId} {args : Array Value} {below : List Frame} {meth : Method} {c : Code} {H : Heap} {locs : List Loc} {cells slots : Nat} {Q : State → Prop}
variable {cc : ByteArray} {pc : Nat} {ls : Array Slot} {rest : List Value} {D : va_G} {cl : List vw_C} {A : Nat → Prop} {a : Nat} {tys : List (ClassId × FieldType)} {M N : mw} {Ts : List Cond} {own : String}
theorem lw_lald (hE : mw_E p c cc s args Ts own m D cl tys) (hP : mw_Q A D cl M H) (t0 : Nat) {cA : ClassId} {f : Nat → Int64} (ha : M a = some (.inl (cA, 1, .inr (.inl f)))) (ht : tys[t0]? = some (cA, .long)) (hdg : decode cc pc = .ok (.laload, 1))
    (kk : W p l e R s m args below meth c H locs cells slots Q (F0 m (pc + 1) ls (.long (f 0) :: rest))) : W p l e R s m args below meth c H locs cells slots Q (F0 m pc ls (.int 0 :: .ref a :: rest)) := by
  refine va_lald (i := 0) hE.1 hE.2.1 hE.2.2.2.2 (hP.1.one ha) 0 t0 rfl ht (vp_in_nI (n := 0) (by decide) (by decide)) hdg ?_
  rw [sb_cl0]
  exact kk
theorem lw_up_Q {A : Nat → Prop} {D : va_G} {cl : List vw_C} {M N : mw} {H : Heap} {o : Nat} {e : va_E} (h1 : mw_Q A D cl M H) (h2 : mw_Q A D cl N H) (hN : N o = some e) : mw_Q A D cl (mw_up M o e) H := by
  refine ⟨fun x ex hx => ?_, fun x ex hx => ?_⟩
  · by_cases q : x = o
    · subst q
      rw [mw_up_s] at hx
      cases hx
      exact h2.1 x _ hN
    · rw [mw_up_n q] at hx
      exact h1.1 x ex hx
  · by_cases q : x = o
    · subst q
      exact h2.2 x e hN
    · rw [mw_up_n q] at hx
      exact h1.2 x ex hx
theorem lw_up_dj {M N N2 : mw} {o : Nat} {e e2 : va_E} (h1 : dj M N) (h2 : dj N2 N) (hN : N2 o = some e2) : dj (mw_up M o e) N := fun x ex ey hx hy => by
  by_cases q : x = o
  · subst q
    exact h2 x e2 ey hN hy
  · rw [mw_up_n q] at hx
    exact h1 x ex ey hx hy
theorem lg_cmp_0 {a b : Int64} (h : a = b) : lg_cmp a b = 0 := by
  subst h
  unfold lg_cmp
  simp
end LR
