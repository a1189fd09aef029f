/-! rows with numbers as nI j; a top of the stack under another name -/
section RW
variable {p : Program} {l : Launch} {e : Env} {R : Room} {s : State} {m : MethodId} {args : Array Value} {below : List Frame} {meth : Method} {c : Code} {H : Heap} {locs : List Loc} {cells slots : Nat} {Q : State → Prop}
variable {cc : ByteArray} {pc : Nat} {ls : Array Slot} {rest : List Value} {D : va_G} {cl : List vw_C} {A : Nat → Prop} {a : Nat} {tys : List (ClassId × FieldType)} {M : mw} {H0 : Heap} {Ts : List Cond} {own : String}
theorem rw_i {x v : Int32} (h : x = v) (k : W p l e R s m args below meth c H locs cells slots Q (F0 m pc ls (.int v :: rest))) : W p l e R s m args below meth c H locs cells slots Q (F0 m pc ls (.int x :: rest)) := by
  subst h
  exact k
theorem rw_i2 {x v y w : Int32} (h : x = v) (h2 : y = w) (k : W p l e R s m args below meth c H locs cells slots Q (F0 m pc ls (.int v :: .int w :: rest))) : W p l e R s m args below meth c H locs cells slots Q (F0 m pc ls (.int x :: .int y :: rest)) := by
  subst h
  subst h2
  exact k
theorem rw_cs {k n : Nat} (h1 : cells ≤ k) (h2 : slots ≤ n) {g : JFrame} (kk : W p l e R s m args below meth c H locs k n Q g) : W p l e R s m args below meth c H locs cells slots Q g := W.widen h1 h2 kk
theorem rw_iald (hE : mw_E p c cc s args Ts own m D cl tys) (hP : mw_Q A D cl M H) (t0 : Nat) {cA : ClassId} {n : Nat} {f : Nat → Int32} (ha : M a = some (.inl (cA, n, .inl f))) (ht : tys[t0]? = some (cA, .int)) (hn : n < 2 ^ 31) {j : Nat} (hdg : decode cc pc = .ok (.iaload, 1)) (hj : j < n)
    (kk : W p l e R s m args below meth c H locs cells slots Q (F0 m (pc + 1) ls (.int (f j) :: rest))) : W p l e R s m args below meth c H locs cells slots Q (F0 m pc ls (.int (nI j) :: .ref a :: rest)) := by
  refine mw_iald hE hP t0 ha ht (vp_in_nI hj hn) hdg ?_
  rw [nI_clamp (by omega)]
  exact kk
theorem rw_zald (hE : mw_E p c cc s args Ts own m D cl tys) (hP : mw_Q A D cl M H) (t0 : Nat) {cA : ClassId} {n : Nat} {f : Nat → Int32} (ha : M a = some (.inl (cA, n, .inl f))) (ht : tys[t0]? = some (cA, .boolean)) (hn : n < 2 ^ 31) {j : Nat} (hdg : decode cc pc = .ok (.baload, 1)) (hj : j < n)
    (kk : W p l e R s m args below meth c H locs cells slots Q (F0 m (pc + 1) ls (.int (f j) :: rest))) : W p l e R s m args below meth c H locs cells slots Q (F0 m pc ls (.int (nI j) :: .ref a :: rest)) := by
  refine mw_zald hE hP t0 ha ht (vp_in_nI hj hn) hdg ?_
  rw [nI_clamp (by omega)]
  exact kk
theorem rw_aald (hE : mw_E p c cc s args Ts own m D cl tys) (hP : mw_Q A D cl M H) (t0 : Nat) {cA : ClassId} {C : String} {n : Nat} {f : Nat → Option Nat} (ha : M a = some (.inl (cA, n, .inr (.inr (.inr (.inr f)))))) (ht : tys[t0]? = some (cA, .object C)) (hn : n < 2 ^ 31) {j : Nat} (hdg : decode cc pc = .ok (.aaload, 1)) (hj : j < n)
    (kk : W p l e R s m args below meth c H locs cells slots Q (F0 m (pc + 1) ls (va_rf (f j) :: rest))) : W p l e R s m args below meth c H locs cells slots Q (F0 m pc ls (.int (nI j) :: .ref a :: rest)) := by
  refine mw_aald hE hP t0 ha ht (vp_in_nI hj hn) hdg ?_
  rw [nI_clamp (by omega)]
  exact kk
theorem rw_iast (hE : mw_E p c cc s args Ts own m D cl tys) (hP : mw_Q A D cl M H) (hS : va_S A H0 H locs) (t0 : Nat) {cA : ClassId} {n : Nat} {f : Nat → Int32} (ha : M a = some (.inl (cA, n, .inl f))) (ht : tys[t0]? = some (cA, .int)) (hn : n < 2 ^ 31) {j : Nat} {x : Int32} (hdg : decode cc pc = .ok (.iastore, 1)) (hj : j < n)
    (kk : ∀ (H1 : Heap) (locs1 : List Loc), mw_Q A D cl (mw_up M a (.inl (cA, n, .inl (upd f j x)))) H1 → va_S A H0 H1 locs1 → W p l e R s m args below meth c H1 locs1 cells slots Q (F0 m (pc + 1) ls rest)) : W p l e R s m args below meth c H locs cells slots Q (F0 m pc ls (.int x :: .int (nI j) :: .ref a :: rest)) := by
  refine mw_iast hE hP hS t0 ha ht (vp_in_nI hj hn) hdg ?_
  rw [nI_clamp (by omega)]
  exact kk
theorem rw_zast (hE : mw_E p c cc s args Ts own m D cl tys) (hP : mw_Q A D cl M H) (hS : va_S A H0 H locs) (t0 : Nat) {cA : ClassId} {n : Nat} {f : Nat → Int32} (ha : M a = some (.inl (cA, n, .inl f))) (ht : tys[t0]? = some (cA, .boolean)) (hn : n < 2 ^ 31) {j : Nat} {x : Int32} (hx : vp_nar .boolean x = x) (hdg : decode cc pc = .ok (.bastore, 1)) (hj : j < n)
    (kk : ∀ (H1 : Heap) (locs1 : List Loc), mw_Q A D cl (mw_up M a (.inl (cA, n, .inl (upd f j x)))) H1 → va_S A H0 H1 locs1 → W p l e R s m args below meth c H1 locs1 cells slots Q (F0 m (pc + 1) ls rest)) : W p l e R s m args below meth c H locs cells slots Q (F0 m pc ls (.int x :: .int (nI j) :: .ref a :: rest)) := by
  refine mw_zast hE hP hS t0 ha ht (vp_in_nI hj hn) hdg ?_
  rw [nI_clamp (by omega), hx]
  exact kk
theorem rw_aast (hE : mw_E p c cc s args Ts own m D cl tys) (hP : mw_Q A D cl M H) (hS : va_S A H0 H locs) (t0 ci : Nat) {cA : ClassId} {r : vw_C} {n v : Nat} {vs : List Value} {f : Nat → Option Nat} (ha : M a = some (.inl (cA, n, .inr (.inr (.inr (.inr f)))))) (ht : tys[t0]? = some (cA, .object r.1)) (hv : M v = some (.inr (ci, vs))) (hc : cl[ci]? = some r) (hn : n < 2 ^ 31) {j : Nat} (hdg : decode cc pc = .ok (.aastore, 1)) (hj : j < n)
    (kk : ∀ (H1 : Heap) (locs1 : List Loc), mw_Q A D cl (mw_up M a (.inl (cA, n, .inr (.inr (.inr (.inr (va_up f j (some v)))))))) H1 → va_S A H0 H1 locs1 → W p l e R s m args below meth c H1 locs1 cells slots Q (F0 m (pc + 1) ls rest)) : W p l e R s m args below meth c H locs cells slots Q (F0 m pc ls (.ref v :: .int (nI j) :: .ref a :: rest)) := by
  refine mw_aast hE hP hS t0 ci ha ht hv hc (vp_in_nI hj hn) hdg ?_
  rw [nI_clamp (by omega)]
  exact kk
end RW
theorem rw_in {x : Int32} {n : Nat} (hn : n < 2 ^ 31) : vp_in x n ↔ ¬ x < 0 ∧ ¬ nI n ≤ x := by
  constructor
  · intro h
    obtain ⟨j, hj, rfl⟩ := vp_in_of h hn
    exact ⟨nI_pos (by omega), nI_ge hj hn⟩
  · intro h
    rcases pk_ix x hn with h1 | h1 | ⟨j, hj, rfl⟩
    · exact absurd h1 h.1
    · exact absurd h1 h.2
    · exact vp_in_nI hj hn
theorem rw_inj {j k n : Nat} (hj : j < n) (hk : k < n) (hn : n ≤ 2 ^ 31) : nI j = nI k ↔ j = k := nI_eq (by omega) (by omega)
theorem rw_upd_s {f : Nat → Int32} {k : Nat} {x : Int32} : upd f k x k = x := pk_us
theorem rw_upd_n {f : Nat → Int32} {k j : Nat} {x : Int32} (h : j ≠ k) : upd f k x j = f j := pk_un h
/-! THE REFERENCE'S CELLS: its object at ad 0, the array of slot k at ad k; v: its numbers, g: its arrays, by their slots -/
abbrev mo_fs (ad : Nat → Nat) (v : Nat → Int32) : List Value := [.int (v 0), .ref (ad 1), .ref (ad 2), .int (v 3), .ref (ad 4), .ref (ad 5), .ref (ad 6), .int (v 7), .ref (ad 8), .ref (ad 9), .int (v 10), .ref (ad 11), .int (v 12), .int (v 13)]
def mo_len : Nat → Nat := fun k => match k with
  | 1 => 3072
  | 2 => 12
  | 4 => 12
  | 5 => 3072
  | 6 => 12
  | 8 => 1600
  | 9 => 40
  | 11 => 200
  | _ => 0
def mo_ks : List Nat := [1, 2, 4, 5, 6, 8, 9, 11]
def mo_N (ad : Nat → Nat) : Prop := (∀ k ∈ mo_ks, ad k ≠ ad 0) ∧ ∀ k ∈ mo_ks, ∀ j ∈ mo_ks, ad k = ad j → k = j
/-- the first of the slots ks whose array stands at x -/
def mo_at (ad : Nat → Nat) (x : Nat) : List Nat → Option Nat
  | [] => none
  | k :: ks => if x = ad k then some k else mo_at ad x ks
def mo_M (cI : ClassId) (ad : Nat → Nat) (v : Nat → Int32) (g : Nat → Nat → Int32) : mw := fun x => if x = ad 0 then some (.inr (5, mo_fs ad v)) else match mo_at ad x mo_ks with
  | none => none
  | some k => some (.inl (cI, mo_len k, .inl (g k)))
theorem mo_at_self {ad : Nat → Nat} {k : Nat} : ∀ (ks : List Nat), k ∈ ks → (∀ j ∈ ks, ad k = ad j → k = j) → mo_at ad (ad k) ks = some k
  | [], h, _ => absurd h List.not_mem_nil
  | j :: ks, h, hi => by
    unfold mo_at
    by_cases hj : ad k = ad j
    · rw [if_pos hj, hi j List.mem_cons_self hj]
    · rw [if_neg hj]
      rcases List.mem_cons.mp h with rfl | h
      · exact absurd rfl hj
      · exact mo_at_self ks h (fun i hi2 => hi i (List.mem_cons_of_mem _ hi2))
theorem mo_at_some {ad : Nat → Nat} {x k : Nat} : ∀ (ks : List Nat), mo_at ad x ks = some k → x = ad k ∧ k ∈ ks
  | [], h => by cases h
  | j :: ks, h => by
    unfold mo_at at h
    by_cases hj : x = ad j
    · rw [if_pos hj] at h
      cases h
      exact ⟨hj, List.mem_cons_self⟩
    · rw [if_neg hj] at h
      obtain ⟨h1, h2⟩ := mo_at_some ks h
      exact ⟨h1, List.mem_cons_of_mem _ h2⟩
theorem mo_o {cI : ClassId} {ad : Nat → Nat} {v : Nat → Int32} {g : Nat → Nat → Int32} : mo_M cI ad v g (ad 0) = some (.inr (5, mo_fs ad v)) := if_pos rfl
theorem mo_a {cI : ClassId} {ad : Nat → Nat} {v : Nat → Int32} {g : Nat → Nat → Int32} (hN : mo_N ad) {k : Nat} (hk : k ∈ mo_ks) : mo_M cI ad v g (ad k) = some (.inl (cI, mo_len k, .inl (g k))) := by
  unfold mo_M
  rw [if_neg (hN.1 k hk), mo_at_self mo_ks hk (fun j hj => hN.2 k hk j hj)]
theorem mo_so {cI : ClassId} {ad : Nat → Nat} {v v' : Nat → Int32} {g : Nat → Nat → Int32} {fs : List Value} (h : fs = mo_fs ad v') : mw_up (mo_M cI ad v g) (ad 0) (.inr (5, fs)) = mo_M cI ad v' g := by
  subst h
  funext x
  by_cases hx : x = ad 0
  · subst hx
    rw [mw_up_s, mo_o]
  · rw [mw_up_n hx]
    unfold mo_M
    rw [if_neg hx, if_neg hx]
theorem mo_sa {cI : ClassId} {ad : Nat → Nat} {v : Nat → Int32} {g : Nat → Nat → Int32} (hN : mo_N ad) {k : Nat} (hk : k ∈ mo_ks) {n : Nat} (hn : mo_len k = n) (f : Nat → Int32) : mw_up (mo_M cI ad v g) (ad k) (.inl (cI, n, .inl f)) = mo_M cI ad v (va_up g k f) := by
  subst hn
  funext x
  by_cases hx : x = ad k
  · subst hx
    rw [mw_up_s, mo_a hN hk, va_up_self]
  · rw [mw_up_n hx]
    unfold mo_M
    by_cases h0 : x = ad 0
    · rw [if_pos h0, if_pos h0]
    · rw [if_neg h0, if_neg h0]
      cases hm : mo_at ad x mo_ks with
      | none => rfl
      | some j =>
        have h1 := mo_at_some mo_ks hm
        have hjk : j ≠ k := fun h => hx (by rw [h1.1, h])
        dsimp only
        rw [va_up_ne _ _ hjk]
section MO
variable {p : Program} {l : Launch} {e : Env} {R : Room} {s : State} {m : MethodId} {args : Array Value} {below : List Frame} {meth : Method} {c : Code} {H : Heap} {locs : List Loc} {cells slots : Nat} {Q : State → Prop}
variable {cc : ByteArray} {pc : Nat} {ls : Array Slot} {rest : List Value} {D : va_G} {A : Nat → Prop} {tys : List (ClassId × FieldType)} {H0 : Heap} {Ts : List Cond} {cI : ClassId} {ad : Nat → Nat} {v : Nat → Int32} {g : Nat → Nat → Int32}
theorem mo_get (hE : mw_E p c cc s args Ts RX4 m D vwCl tys) (hin : ∀ w ∈ wsX40, w ∈ Ts) (hP : mw_Q A D vwCl (mo_M cI ad v g) H) (k : Nat) {index : Nat} (hk : k < 14) (hlink : Cond.fieldLink RX4 index "CodePagesModel" (TX4 k).2.1 (TX4 k).2.2.1 ∈ Ts) (hd : (TX4 k).1 = "CodePagesModel") {x : Value} (hv : (mo_fs ad v)[k]? = some x) (hdg : decode cc pc = .ok (.getfield index, 3))
    (kk : W p l e R s m args below meth c H locs cells slots Q (F0 m (pc + 3) ls (x :: rest))) : W p l e R s m args below meth c H locs cells slots Q (F0 m pc ls (.ref (ad 0) :: rest)) :=
  mw_get (ci := 5) (T := TX4) (N := 14) (C := RX4) hE hin hP mo_o rfl k hk (hE.2.2.1 _ hlink) hd hv hdg kk
theorem mo_put (hE : mw_E p c cc s args Ts RX4 m D vwCl tys) (hin : ∀ w ∈ wsX40, w ∈ Ts) (hP : mw_Q A D vwCl (mo_M cI ad v g) H) (hS : va_S A H0 H locs) (k : Nat) {index : Nat} {x : Int32} (hk : k < 14) (hlink : Cond.fieldLink RX4 index "CodePagesModel" (TX4 k).2.1 (TX4 k).2.2.1 ∈ Ts) (hd : (TX4 k).1 = "CodePagesModel") (hf : (TX4 k).2.2.2 = false) (ht : parseFieldDescriptor (TX4 k).2.2.1 = some .int) (hv : (mo_fs ad v).set k (.int x) = mo_fs ad (va_up v k x)) (hdg : decode cc pc = .ok (.putfield index, 3))
    (kk : ∀ (H : Heap) (locs : List Loc), mw_Q A D vwCl (mo_M cI ad (va_up v k x) g) H → va_S A H0 H locs → W p l e R s m args below meth c H locs cells slots Q (F0 m (pc + 3) ls rest)) : W p l e R s m args below meth c H locs cells slots Q (F0 m pc ls (.int x :: .ref (ad 0) :: rest)) := by
  refine mw_put (ci := 5) (T := TX4) (N := 14) (C := RX4) hE hin tyX4 tyX4_ok nmX4 hP hS mo_o rfl k hk (hE.2.2.1 _ hlink) hd hf ht rfl rfl hk hdg ?_
  rw [mo_so hv]
  exact kk
theorem mo_ld (hE : mw_E p c cc s args Ts RX4 m D vwCl tys) (hN : mo_N ad) (hP : mw_Q A D vwCl (mo_M cI ad v g) H) (t0 k : Nat) (ht : tys[t0]? = some (cI, .int)) (hk : k ∈ mo_ks) {n j : Nat} (hn : mo_len k = n) (hn2 : n < 2 ^ 31) (hdg : decode cc pc = .ok (.iaload, 1)) (hj : j < n)
    (kk : W p l e R s m args below meth c H locs cells slots Q (F0 m (pc + 1) ls (.int (g k j) :: rest))) : W p l e R s m args below meth c H locs cells slots Q (F0 m pc ls (.int (nI j) :: .ref (ad k) :: rest)) := by
  subst hn
  exact rw_iald hE hP t0 (mo_a hN hk) ht hn2 hdg hj kk
theorem mo_st (hE : mw_E p c cc s args Ts RX4 m D vwCl tys) (hN : mo_N ad) (hP : mw_Q A D vwCl (mo_M cI ad v g) H) (hS : va_S A H0 H locs) (t0 k : Nat) (ht : tys[t0]? = some (cI, .int)) (hk : k ∈ mo_ks) {n j : Nat} {x : Int32} (hn : mo_len k = n) (hn2 : n < 2 ^ 31) (hdg : decode cc pc = .ok (.iastore, 1)) (hj : j < n)
    (kk : ∀ (H : Heap) (locs : List Loc), mw_Q A D vwCl (mo_M cI ad v (va_up g k (upd (g k) j x))) H → va_S A H0 H locs → W p l e R s m args below meth c H locs cells slots Q (F0 m (pc + 1) ls rest)) : W p l e R s m args below meth c H locs cells slots Q (F0 m pc ls (.int x :: .int (nI j) :: .ref (ad k) :: rest)) := by
  refine rw_iast hE hP hS t0 (mo_a hN hk) ht (by rw [hn]; exact hn2) hdg (by rw [hn]; exact hj) ?_
  rw [mo_sa hN hk rfl]
  exact kk
end MO
theorem nn_le {a b : Nat} (h : nI a ≤ nI b) (ha : a < 2 ^ 31) (hb : b < 2 ^ 31) : a ≤ b := (nI_leI ha hb).mp h
theorem nn_nle {a b : Nat} (h : ¬ nI a ≤ nI b) (ha : b < 2 ^ 31) (hb : a < 2 ^ 31) : b < a := Nat.lt_of_not_le fun q => h ((nI_leI hb ha).mpr q)
theorem nn_lt {a b : Nat} (h : nI a < nI b) (ha : a < 2 ^ 31) (hb : b < 2 ^ 31) : a < b := (nI_ltI ha hb).mp h
theorem nn_nlt {a b : Nat} (h : ¬ nI a < nI b) (ha : b < 2 ^ 31) (hb : a < 2 ^ 31) : b ≤ a := Nat.le_of_not_lt fun q => h ((nI_ltI hb ha).mpr q)
theorem nn_eq {a b : Nat} (h : nI a = nI b) (ha : a < 2 ^ 31) (hb : b < 2 ^ 31) : a = b := (nI_eq ha hb).mp h
theorem nn_neq {a b : Nat} (h : ¬ nI a = nI b) (ha : a < 2 ^ 31) (hb : b < 2 ^ 31) : a ≠ b := fun q => h (by rw [q])
/-- the array classes: int, boolean, Page, Order, Text, long -/
abbrev TY (k : Nat → ClassId) : List (ClassId × FieldType) := [(k 0, .int), (k 1, .boolean), (k 2, .object RX1), (k 3, .object RX0), (k 4, .object RX2), (k 5, .long)]
