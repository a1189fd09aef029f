/-! THE CLASS AND THE REFERENCE SIDE BY SIDE: what the class holds (c) is what the reference holds (g); and what always holds of g -/
def sm_P (n : Nat → Nat) (c : Nat → Nat → Nat → Int32) (g : Nat → Nat → Int32) : Prop := ∀ p, p < n 0 → c 2 p 0 = g 2 p ∧ (∃ z, z < 256 ∧ g 2 p = nI z) ∧ (∀ i, i < 256 → c 1 p i = g 1 (256 * p + i) ∧ okm (g 1 (256 * p + i))) ∧ ∀ i j, i < 256 → j < 256 → g 1 (256 * p + i) = g 1 (256 * p + j) → g 1 (256 * p + i) ≠ -1 → i = j
def sm_O (n : Nat → Nat) (c : Nat → Nat → Nat → Int32) (g : Nat → Nat → Int32) : Prop := ∀ o, o < n 1 → c 6 o 0 = bz (g 4 o = nI 2) ∧ (∀ i, i < 256 → c 3 o i = rko g o i) ∧ (g 4 o = nI 2 → c 5 o 0 = g 6 o ∧ ∀ i, i < 256 → c 4 o i = bz (g 5 (256 * o + i) ≠ -1))
def sm_X (n : Nat → Nat) (c : Nat → Nat → Nat → Int32) (L : Nat → Nat) (X : Nat → Nat → Nat) : Prop := ∀ t, t < n 2 → c 8 t 0 = nI (L t) ∧ ∀ q, q < L t → c 7 t q = nI (X t q)
def sm (n : Nat → Nat) (c : Nat → Nat → Nat → Int32) (g : Nat → Nat → Int32) (L : Nat → Nat) (X : Nat → Nat → Nat) : Prop := sm_P n c g ∧ sm_O n c g ∧ sm_X n c L X ∧ mo_X n g L X ∧ ∀ j, j < n 3 → c 9 0 j = g 11 j
theorem ff_none {f : Nat → Int32} {u : Int32} : ∀ (m i : Nat), (∀ j, i ≤ j → j < i + m → f j ≠ u) → ff f u i m = -1
  | 0, _, _ => rfl
  | m + 1, i, h => by
    rw [ff, if_neg (h i (Nat.le_refl _) (by omega))]
    exact ff_none m (i + 1) (fun j h1 h2 => h j (by omega) (by omega))
theorem ff_one {f : Nat → Int32} {u : Int32} {j : Nat} (hj : f j = u) : ∀ (m i : Nat), i ≤ j → j < i + m → (∀ q, i ≤ q → q < j → f q ≠ u) → ff f u i m = nI j
  | 0, i, h1, h2, _ => absurd h2 (by omega)
  | m + 1, i, h1, h2, h => by
    by_cases he : i = j
    · subst he
      rw [ff, if_pos hj]
    · rw [ff, if_neg (h i (Nat.le_refl _) (by omega))]
      exact ff_one hj m (i + 1) (by omega) (by omega) (fun q a b => h q (by omega) b)
theorem fl_none {f : Nat → Int32} {u : Int32} : ∀ (m : Nat), (∀ j, j < m → f j ≠ u) → fl f u m = -1
  | 0, _ => rfl
  | m + 1, h => by
    rw [fl, if_neg (h m (by omega))]
    exact fl_none m (fun j hj => h j (by omega))
theorem fl_one {f : Nat → Int32} {u : Int32} {j : Nat} (hj : f j = u) : ∀ (m : Nat), j < m → (∀ q, j < q → q < m → f q ≠ u) → fl f u m = nI j
  | 0, h, _ => absurd h (by omega)
  | m + 1, h1, h => by
    by_cases he : j = m
    · subst he
      rw [fl, if_pos hj]
    · rw [fl, if_neg (h m (by omega) (by omega))]
      exact fl_one hj m (by omega) (fun q a b => h q a (by omega))
/-- what a look-up in the reference says -/
theorem mf_spec {n : Nat → Nat} {c : Nat → Nat → Nat → Int32} {g : Nat → Nat → Int32} (h : sm_P n c g) {p : Nat} (hp : p < n 0) (u : Int32) : pfind (c 1 p) u = mf g p u ∧ ((mf g p u = -1 ∧ (u = -1 ∨ ∀ i, i < 256 → g 1 (256 * p + i) ≠ u)) ∨ ∃ j, j < 256 ∧ mf g p u = nI j ∧ g 1 (256 * p + j) = u ∧ u ≠ -1) := by
  obtain ⟨-, -, h3, h4⟩ := h p hp
  unfold pfind mf
  by_cases hu : u = -1
  · rw [if_pos hu, if_pos hu]
    exact ⟨rfl, Or.inl ⟨rfl, Or.inl hu⟩⟩
  · rw [if_neg hu, if_neg hu]
    by_cases hx : ∃ j, j < 256 ∧ g 1 (256 * p + j) = u
    · obtain ⟨j, hj, he⟩ := hx
      have un : ∀ q, q < 256 → q ≠ j → g 1 (256 * p + q) ≠ u := fun q hq hqj e => hqj (h4 q j hq hj (e.trans he.symm) (by rw [e]; exact hu))
      rw [ff_one (j := j) ((h3 j hj).1.trans he) 256 0 (by omega) (by omega) (fun q _ hq => by rw [(h3 q (by omega)).1]; exact un q (by omega) (by omega)), fl_one (f := fun i => g 1 (256 * p + i)) (j := j) he 256 hj (fun q h1 h2 => un q h2 (by omega))]
      exact ⟨rfl, Or.inr ⟨j, hj, rfl, he, hu⟩⟩
    · have no : ∀ j, j < 256 → g 1 (256 * p + j) ≠ u := fun j hj e => hx ⟨j, hj, e⟩
      rw [ff_none 256 0 (fun j _ hj => by rw [(h3 j (by omega)).1]; exact no j (by omega)), fl_none 256 (fun j hj => no j hj)]
      exact ⟨rfl, Or.inl ⟨rfl, Or.inr no⟩⟩
theorem nI_m1 {j : Nat} (hj : j < 2 ^ 31) : nI j ≠ -1 := fun e => by
  have := congrArg Int32.toInt e
  rw [nI_toInt hj] at this
  have h2 : (-1 : Int32).toInt = -1 := by decide
  omega
/-- a meaning is told -/
theorem sm_set {n : Nat → Nat} {c : Nat → Nat → Nat → Int32} {g : Nat → Nat → Int32} {L : Nat → Nat} {X : Nat → Nat → Nat} (h : sm n c g L X) {p j : Nat} (hp : p < n 0) (hj : j < 256) {u : Int32} (hu : okm u) (hm : mf g p u = -1 ∨ mf g p u = nI j) : sm n (up3 c 1 p (upd (c 1 p) j u)) (va_up g 1 (upd (g 1) (256 * p + j) u)) L X := by
  obtain ⟨h1, h2, h3, h4, h5⟩ := h
  have hs := (mf_spec h1 hp u).2
  refine ⟨fun q hq => ?_, h2, h3, h4, h5⟩
  obtain ⟨a1, a2, a3, a4⟩ := h1 q hq
  refine ⟨a1, a2, fun i hi => ?_, fun i i2 hi hi2 e1 e2 => ?_⟩
  · rw [va_up_self]
    by_cases hqp : q = p
    · subst hqp
      rw [up3_s]
      by_cases hij : i = j
      · subst hij
        rw [pk_us, pk_us]
        exact ⟨rfl, hu⟩
      · rw [pk_un hij, pk_un (by omega)]
        exact a3 i hi
    · rw [up3_n hqp, pk_un (by omega)]
      exact a3 i hi
  · rw [va_up_self] at e1 e2
    by_cases hqp : q = p
    · subst hqp
      by_cases hij : i = j
      · by_cases hi2j : i2 = j
        · omega
        · subst hij
          rw [pk_us] at e1 e2
          rw [pk_un (by omega)] at e1
          rcases hs with ⟨-, hs | hs⟩ | ⟨j2, hj2, hs1, hs2, -⟩
          · exact absurd hs e2
          · exact absurd e1.symm (hs i2 hi2)
          · rcases hm with hm | hm
            · exact absurd (hs1.symm.trans hm) (nI_m1 (by omega))
            · have := (nI_eq (by omega) (by omega)).mp (hs1.symm.trans hm)
              subst this
              exact (a4 i2 j2 hi2 hj2 (e1.symm.trans hs2.symm) (by rw [← e1]; exact e2)).symm
      · by_cases hi2j : i2 = j
        · subst hi2j
          rw [pk_us] at e1
          rw [pk_un (by omega)] at e1 e2
          rcases hs with ⟨-, hs | hs⟩ | ⟨j2, hj2, hs1, hs2, -⟩
          · exact absurd (e1.trans hs) e2
          · exact absurd e1 (hs i hi)
          · rcases hm with hm | hm
            · exact absurd (hs1.symm.trans hm) (nI_m1 (by omega))
            · have := (nI_eq (by omega) (by omega)).mp (hs1.symm.trans hm)
              subst this
              exact a4 i j2 hi hj2 (e1.trans hs2.symm) e2
        · rw [pk_un (by omega), pk_un (by omega)] at e1
          rw [pk_un (by omega)] at e2
          exact a4 i i2 hi hi2 e1 e2
    · rw [pk_un (by omega), pk_un (by omega)] at e1
      rw [pk_un (by omega)] at e2
      exact a4 i i2 hi hi2 e1 e2
theorem sm_stand {n : Nat → Nat} {c : Nat → Nat → Nat → Int32} {g : Nat → Nat → Int32} {L : Nat → Nat} {X : Nat → Nat → Nat} (h : sm n c g L X) {p j : Nat} (hj : j < 256) : sm n (up3 c 2 p (fun _ => nI j)) (va_up g 2 (upd (g 2) p (nI j))) L X := by
  obtain ⟨h1, h2, h3, h4, h5⟩ := h
  refine ⟨fun q hq => ?_, h2, h3, h4, h5⟩
  obtain ⟨a1, a2, a3, a4⟩ := h1 q hq
  refine ⟨?_, ?_, a3, a4⟩
  · rw [va_up_self]
    by_cases hqp : q = p
    · subst hqp
      rw [up3_s, pk_us]
    · rw [up3_n hqp, pk_un hqp]
      exact a1
  · rw [va_up_self]
    by_cases hqp : q = p
    · subst hqp
      exact ⟨j, hj, pk_us⟩
    · rw [pk_un hqp]
      exact a2
theorem sm_lst {n : Nat → Nat} {c : Nat → Nat → Nat → Int32} {g : Nat → Nat → Int32} {L : Nat → Nat} {X : Nat → Nat → Nat} (h : sm n c g L X) (x : Int32) : sm (va_up n 3 (n 3 + 1)) (up3 c 9 0 (upd (c 9 0) (n 3) x)) (va_up g 11 (upd (g 11) (n 3) x)) L X := by
  obtain ⟨h1, h2, h3, h4, h5⟩ := h
  refine ⟨h1, h2, h3, h4, fun j hj => ?_⟩
  rw [up3_s, va_up_self]
  rw [va_up_self] at hj
  by_cases e : j = n 3
  · subst e
    rw [pk_us, pk_us]
  · rw [pk_un e, pk_un e]
    exact h5 j (by omega)
theorem sm_sgn {n : Nat → Nat} {c : Nat → Nat → Nat → Int32} {g : Nat → Nat → Int32} {L : Nat → Nat} {X : Nat → Nat → Nat} (h : sm n c g L X) {t j : Nat} (ht : t < n 2) (hj : j < 256) (hL : L t < 40) : sm n (up3 (up3 c 7 t (upd (c 7 t) (L t) (nI j))) 8 t (fun _ => nI (L t + 1))) (va_up (va_up g 8 (upd (g 8) (40 * t + L t) (nI j))) 9 (upd (g 9) t (nI (L t + 1)))) (va_up L t (L t + 1)) (va_up X t (va_up (X t) (L t) j)) := by
  obtain ⟨h1, h2, h3, h4, h5⟩ := h
  refine ⟨h1, h2, fun q hq => ?_, fun q hq => ?_, h5⟩
  · by_cases e : q = t
    · subst e
      obtain ⟨a1, a2⟩ := h3 q hq
      refine ⟨by rw [up3_s, va_up_self], fun i hi => ?_⟩
      rw [va_up_self] at hi
      rw [up3_o (by decide), up3_s, va_up_self]
      by_cases e2 : i = L q
      · subst e2
        rw [pk_us, va_up_self]
      · rw [pk_un e2, va_up_ne _ _ e2]
        exact a2 i (by omega)
    · obtain ⟨a1, a2⟩ := h3 q hq
      refine ⟨by rw [up3_n e, up3_o (by decide), va_up_ne _ _ e]; exact a1, fun i hi => ?_⟩
      rw [va_up_ne _ _ e] at hi
      rw [up3_o (by decide), up3_n e, va_up_ne _ _ e]
      exact a2 i hi
  · obtain ⟨b1, b2, b3⟩ := h4 q hq
    rw [va_up_self, va_up_ne (va_up g 8 _) _ (show 8 ≠ 9 by decide), va_up_self]
    by_cases e : q = t
    · subst e
      rw [va_up_self, va_up_self]
      refine ⟨by omega, pk_us, fun i hi => ?_⟩
      by_cases e2 : i = L q
      · subst e2
        rw [va_up_self, pk_us]
        exact ⟨hj, rfl⟩
      · rw [va_up_ne _ _ e2, pk_un (by omega)]
        exact b3 i (by omega)
    · rw [va_up_ne _ _ e, va_up_ne _ _ e]
      have := (h4 t ht).1
      refine ⟨b1, by rw [pk_un e]; exact b2, fun i hi => ?_⟩
      rw [pk_un (by omega)]
      exact b3 i hi
/-- a code of a text is changed -/
theorem sm_cod {n : Nat → Nat} {c : Nat → Nat → Nat → Int32} {g : Nat → Nat → Int32} {L : Nat → Nat} {X : Nat → Nat → Nat} (h : sm n c g L X) {t q j : Nat} (ht : t < n 2) (hj : j < 256) (hq : q < L t) : sm n (up3 c 7 t (upd (c 7 t) q (nI j))) (va_up g 8 (upd (g 8) (40 * t + q) (nI j))) L (va_up X t (va_up (X t) q j)) := by
  obtain ⟨h1, h2, h3, h4, h5⟩ := h
  refine ⟨h1, h2, fun y hy => ?_, fun y hy => ?_, h5⟩
  · obtain ⟨a1, a2⟩ := h3 y hy
    refine ⟨a1, fun i hi => ?_⟩
    by_cases e : y = t
    · subst e
      rw [up3_s, va_up_self]
      by_cases e2 : i = q
      · subst e2
        rw [pk_us, va_up_self]
      · rw [pk_un e2, va_up_ne _ _ e2]
        exact a2 i hi
    · rw [up3_n e, va_up_ne _ _ e]
      exact a2 i hi
  · obtain ⟨b1, b2, b3⟩ := h4 y hy
    refine ⟨b1, b2, fun i hi => ?_⟩
    rw [va_up_self]
    have := (h4 t ht).1
    by_cases e : y = t
    · subst e
      rw [va_up_self]
      by_cases e2 : i = q
      · subst e2
        rw [va_up_self, pk_us]
        exact ⟨hj, rfl⟩
      · rw [va_up_ne _ _ e2, pk_un (by omega)]
        exact b3 i hi
    · rw [va_up_ne _ _ e, pk_un (by omega)]
      exact b3 i hi
theorem hgh_ext {f f2 : Nat → Int32} : ∀ {c : Nat}, (∀ i, i ≤ c → f i = f2 i) → hgh f c = hgh f2 c
  | 0, _ => rfl
  | c + 1, h => by
    have e : hgh f c = hgh f2 c := hgh_ext (fun i hi => h i (by omega))
    have := hgh_le f2 c
    rw [hgh, hgh, e, h (c + 1) (Nat.le_refl _), h (hgh f2 c) (by omega)]
theorem tr_code {n n2 : Nat → Nat} {c : Nat → Nat → Nat → Int32} {g g2 : Nat → Nat → Int32} (h : sm_P n c g) {j p q d : Nat} {r : Int32} (hq : q < n 0) (hr : R_tr n g j p q r n2 g2 d) : ∃ z, z < 256 ∧ r = nI z := by
  rcases hr with ⟨h1, h2, -⟩ | ⟨-, h2, -⟩
  · rcases (mf_spec h hq (g 1 (256 * p + j))).2 with ⟨e, -⟩ | ⟨z, hz, e, -⟩
    · exact absurd e h1
    · exact ⟨z, hz, h2.trans e⟩
  · obtain ⟨z, hz, e⟩ := (h q hq).2.1
    exact ⟨z, hz, h2.trans e⟩
theorem cmpf_eq {f h : Nat → Int32} : ∀ (m k : Nat), (∀ q, k ≤ q → f q = h q) → cmpf f h k m = 0
  | 0, _, _ => rfl
  | m + 1, k, e => by
    rw [cmpf, if_pos (e k (Nat.le_refl _))]
    exact cmpf_eq m (k + 1) (fun q hq => e q (by omega))
theorem rdn_blank {L : Nat → Nat} {X : Nat → Nat → Nat} {t q : Nat} (h : L t ≤ q) : rdn L X t q = 32 := if_neg (by omega)
theorem max_ex {a b : Nat} (ha : a ≤ 40) (hb : b ≤ 40) : ∃ m, a ≤ m ∧ b ≤ m ∧ m ≤ 40 ∧ (if nI a < nI b then nI b else nI a) = nI m := by
  by_cases h : a < b
  · exact ⟨b, by omega, by omega, hb, if_pos (nI_lt h (by omega))⟩
  · exact ⟨a, by omega, by omega, ha, if_neg (nI_nlt (by omega) (by omega))⟩
/-- the ranks of an alphabet, once those outside are ranked again -/
theorem ord_rk {g : Nat → Nat → Int32} {o : Nat} {u f4 : Nat → Int32} {nx : Int32} (h4 : g 4 o = nI 2) (hn : nx = g 6 o) (hf : ∀ i, i < 256 → f4 i = bz (g 5 (256 * o + i) ≠ -1)) (hu : ∀ i, i < 256 → g 5 (256 * o + i) ≠ -1 → u i = g 5 (256 * o + i)) : ∀ i, i < 256 → rto u f4 nx 256 i = rko g o i := by
  intro i hi
  have hz : ∀ q, q < 256 → (f4 q = 0 ↔ g 5 (256 * o + q) = -1) := fun q hq => by
    rw [hf q hq]
    by_cases e : g 5 (256 * o + q) = -1
    · rw [bz_f (fun x => x e)]
      exact ⟨fun _ => e, fun _ => rfl⟩
    · rw [bz_t e]
      exact ⟨fun x => absurd x (by decide), fun x => absurd x e⟩
  unfold rto rko
  by_cases e : g 5 (256 * o + i) = -1
  · rw [if_pos ⟨hi, (hz i hi).mpr e⟩, if_pos ⟨h4, e⟩, hn]
    congr 2
    exact cntb_ext (fun y hy => by
      unfold outb nob
      exact decide_eq_decide.mpr (hz y (by omega)))
  · rw [if_neg (fun x => e ((hz i hi).mp x.2)), if_neg (fun x => e x.2)]
    exact hu i hi e
/-- an order whose row in g is changed: the others stay -/
theorem sm_ord {n : Nat → Nat} {c : Nat → Nat → Nat → Int32} {g g2 : Nat → Nat → Int32} {L : Nat → Nat} {X : Nat → Nat → Nat} (h : sm n c g L X) {o : Nat} {f3 f4 : Nat → Int32} {x : Int32} (hk : ∀ k, k ≠ 5 → k ≠ 6 → g2 k = g k) (h6 : ∀ q, q ≠ o → g2 6 q = g 6 q) (h5 : ∀ q i, q ≠ o → i < 256 → g2 5 (256 * q + i) = g 5 (256 * q + i))
    (h4 : g 4 o = nI 2) (hx : x = g2 6 o) (hf : ∀ i, i < 256 → f4 i = bz (g2 5 (256 * o + i) ≠ -1)) (h3 : ∀ i, i < 256 → f3 i = rko g2 o i) : sm n (up3 (up3 (up3 c 3 o f3) 4 o f4) 5 o (fun _ => x)) g2 L X := by
  obtain ⟨a1, a2, a3, a4, a5⟩ := h
  have e1 := hk 1 (by decide) (by decide)
  have e2 := hk 2 (by decide) (by decide)
  have e4 := hk 4 (by decide) (by decide)
  have e8 := hk 8 (by decide) (by decide)
  have e9 := hk 9 (by decide) (by decide)
  have e11 := hk 11 (by decide) (by decide)
  refine ⟨fun p hp => ?_, fun q hq => ?_, a3, fun t ht => ?_, fun j hj => ?_⟩
  · rw [e1, e2]
    exact a1 p hp
  · rw [e4]
    obtain ⟨b1, b2, b3⟩ := a2 q hq
    by_cases e : q = o
    · subst e
      refine ⟨b1, fun i hi => ?_, fun _ => ⟨?_, fun i hi => ?_⟩⟩
      · rw [up3_o (by decide), up3_o (by decide), up3_s]
        exact h3 i hi
      · rw [up3_s]
        exact hx
      · rw [up3_o (by decide), up3_s]
        exact hf i hi
    · refine ⟨b1, fun i hi => ?_, fun h2 => ⟨?_, fun i hi => ?_⟩⟩
      · rw [up3_o (by decide), up3_o (by decide), up3_n e, b2 i hi]
        unfold rko
        rw [e4, h6 q e, h5 q i e hi]
        rw [cntb_ext (b := nob g q) (b' := nob g2 q) (fun y hy => by unfold nob; rw [h5 q y e (by omega)])]
      · rw [up3_n e, up3_o (by decide), up3_o (by decide), h6 q e]
        exact (b3 h2).1
      · rw [up3_o (by decide), up3_n e, up3_o (by decide), h5 q i e hi]
        exact (b3 h2).2 i hi
  · rw [e8, e9]
    exact a4 t ht
  · rw [e11]
    exact a5 j hj
/-- an equal sign is told -/
theorem sm_also {n : Nat → Nat} {c : Nat → Nat → Nat → Int32} {g : Nat → Nat → Int32} {L : Nat → Nat} {X : Nat → Nat → Nat} (h : sm n c g L X) {o i j : Nat} (ho : o < n 1) (hi : i < 256) (hj : j < 256) (h4 : g 4 o = nI 2) (h1 : g 5 (256 * o + i) ≠ -1) :
    sm n (up3 (up3 (up3 c 3 o (rto (upd (c 3 o) j (c 3 o i)) (upd (c 4 o) j 1) (c 5 o 0) 256)) 4 o (upd (c 4 o) j 1)) 5 o (fun _ => c 5 o 0)) (va_up g 5 (upd (g 5) (256 * o + j) (g 5 (256 * o + i)))) L X := by
  obtain ⟨b1, b2, b3⟩ := h.2.1 o ho
  obtain ⟨b4, b5⟩ := b3 h4
  have hri : c 3 o i = g 5 (256 * o + i) := by
    rw [b2 i hi]
    unfold rko
    rw [if_neg (fun x => h1 x.2)]
  have hf : ∀ q, q < 256 → upd (c 4 o) j 1 q = bz (va_up g 5 (upd (g 5) (256 * o + j) (g 5 (256 * o + i))) 5 (256 * o + q) ≠ -1) := fun q hq => by
    rw [va_up_self]
    by_cases e : q = j
    · subst e
      rw [pk_us, pk_us, bz_t h1]
    · rw [pk_un e, pk_un (by omega)]
      exact b5 q hq
  refine sm_ord h (fun k k5 _ => va_up_ne _ _ k5) (fun _ _ => rfl) (fun q y hq hy => by rw [va_up_self, pk_un (by omega)]) h4 b4 hf (ord_rk h4 b4 hf (fun q hq hne => ?_))
  rw [va_up_self] at hne ⊢
  by_cases e : q = j
  · subst e
    rw [pk_us, pk_us, hri]
  · rw [pk_un e, pk_un (by omega), b2 q hq]
    rw [pk_un (by omega)] at hne
    unfold rko
    rw [if_neg (fun x => hne x.2)]
theorem thg_k {g : Nat → Nat → Int32} {o : Nat} {up : Bool} {f k : Nat} (h5 : k ≠ 5) (h6 : k ≠ 6) : ∀ m, thg g o up f m k = g k
  | 0 => rfl
  | m + 1 => by rw [thg, va_up_ne _ _ h6, va_up_ne _ _ h5, thg_k h5 h6 m]
theorem thg_6 {g : Nat → Nat → Int32} {o : Nat} {up : Bool} {f : Nat} : ∀ m, thg g o up f m 6 = upd (g 6) o (g 6 o + nI m)
  | 0 => by
    funext q
    by_cases e : q = o
    · subst e
      rw [pk_us, nI_0, Int32.add_zero]
      rfl
    · rw [pk_un e]
      rfl
  | m + 1 => by
    rw [thg, va_up_self, thg_6 m]
    funext q
    by_cases e : q = o
    · subst e
      rw [pk_us, pk_us, pk_us, Int32.add_assoc, nI_1]
    · rw [pk_un e, pk_un e, pk_un e]
theorem tix_inj {up : Bool} {f t a b : Nat} (h : up = true ↔ f ≤ t) (ha : a < tcn up f t) (hb : b < tcn up f t) (e : tix up f a = tix up f b) : a = b := by
  cases up with
  | true =>
    have e : f + a = f + b := e
    omega
  | false =>
    have e : f - a = f - b := e
    have ha : a < f - t + 1 := ha
    have hb : b < f - t + 1 := hb
    have : ¬ f ≤ t := fun q => absurd (h.mpr q) (by decide)
    omega
theorem thg_5 {g : Nat → Nat → Int32} {o : Nat} {up : Bool} {f t : Nat} (h : up = true ↔ f ≤ t) : ∀ m, m ≤ tcn up f t → (∀ q, q < m → thg g o up f m 5 (256 * o + tix up f q) = g 6 o + nI q) ∧ ∀ y, (∀ q, q < m → y ≠ 256 * o + tix up f q) → thg g o up f m 5 y = g 5 y
  | 0, _ => ⟨fun _ hq => absurd hq (Nat.not_lt_zero _), fun _ _ => rfl⟩
  | m + 1, hm => by
    obtain ⟨i1, i2⟩ := thg_5 (g := g) (o := o) h m (by omega)
    have e6 : thg g o up f m 6 o = g 6 o + nI m := by rw [thg_6, pk_us]
    rw [thg, va_up_ne _ _ (by decide), va_up_self, e6]
    refine ⟨fun q hq => ?_, fun y hy => ?_⟩
    · by_cases e : q = m
      · subst e
        exact pk_us
      · rw [pk_un (fun z => e (tix_inj h (by omega) (by omega) (by omega)))]
        exact i1 q (by omega)
    · rw [pk_un (hy m (by omega))]
      exact i2 y (fun q hq => hy q (by omega))
theorem rng {up : Bool} {f t : Nat} (h : up = true ↔ f ≤ t) {m : Nat} (hm : m < tcn up f t) : dst up f t m < tcn up f t ∧ tix up f (dst up f t m) = tlo up f t + m := by
  cases up with
  | true => exact ⟨hm, rfl⟩
  | false =>
    have hm : m < f - t + 1 := hm
    have h2 : ¬ f ≤ t := fun q => absurd (h.mpr q) (by decide)
    refine ⟨by show f - t - m < f - t + 1; omega, ?_⟩
    show f - (f - t - m) = t + m
    omega
theorem rng2 {up : Bool} {f t : Nat} (h : up = true ↔ f ≤ t) {q : Nat} (hq : q < tcn up f t) : ∃ m, m < tcn up f t ∧ tix up f q = tlo up f t + m ∧ dst up f t m = q := by
  cases up with
  | true => exact ⟨q, hq, rfl, rfl⟩
  | false =>
    have hq : q < f - t + 1 := hq
    have h2 : ¬ f ≤ t := fun x => absurd (h.mpr x) (by decide)
    refine ⟨f - t - q, by show f - t - q < f - t + 1; omega, ?_, ?_⟩
    · show f - q = t + (f - t - q)
      omega
    · show f - t - (f - t - q) = q
      omega
theorem rng_lt {up : Bool} {f t : Nat} (h : up = true ↔ f ≤ t) (hf : f < 256) (ht : t < 256) {m : Nat} (hm : m < tcn up f t) : tlo up f t + m < 256 := by
  cases up with
  | true =>
    have hm : m < t - f + 1 := hm
    have := h.mp rfl
    show f + m < 256
    omega
  | false =>
    have hm : m < f - t + 1 := hm
    show t + m < 256
    omega
/-- the next ranks are small -/
def nxB (n : Nat → Nat) (g : Nat → Nat → Int32) (B : Nat) : Prop := ∀ o, o < n 1 → g 4 o = nI 2 → ∃ N, N ≤ B ∧ g 6 o = nI N
/-- a range is told -/
theorem sm_thr {n : Nat → Nat} {c : Nat → Nat → Nat → Int32} {g : Nat → Nat → Int32} {L : Nat → Nat} {X : Nat → Nat → Nat} (h : sm n c g L X) {o i j : Nat} {up : Bool} (ho : o < n 1) (hi : i < 256) (hj : j < 256) (h4 : g 4 o = nI 2) (hup : up = true ↔ i ≤ j) {B : Nat} (hB : nxB n g B) (hB2 : B < 2 ^ 30) :
    sm n (up3 (up3 (up3 c 3 o (rto (blk (c 3 o) (tlo up i j) (tcn up i j) (fun q => c 5 o 0 + nI (dst up i j q))) (blk (c 4 o) (tlo up i j) (tcn up i j) (fun _ => 1)) (c 5 o 0 + nI (tcn up i j)) 256)) 4 o (blk (c 4 o) (tlo up i j) (tcn up i j) (fun _ => 1))) 5 o (fun _ => c 5 o 0 + nI (tcn up i j))) (thg g o up i (tcn up i j)) L X := by
  obtain ⟨b1, b2, b3⟩ := h.2.1 o ho
  obtain ⟨b4, b5⟩ := b3 h4
  obtain ⟨t1, t2⟩ := thg_5 (g := g) (o := o) hup (tcn up i j) (Nat.le_refl _)
  have sml : ∀ q, q < tcn up i j → tix up i q < 256 := fun q hq => by
    obtain ⟨m, hm, e, -⟩ := rng2 hup hq
    rw [e]
    exact rng_lt hup hi hj hm
  -- a code in the range, a code outside it
  have inn : ∀ m, m < tcn up i j → thg g o up i (tcn up i j) 5 (256 * o + (tlo up i j + m)) = g 6 o + nI (dst up i j m) := fun m hm => by
    obtain ⟨e1, e2⟩ := rng hup hm
    rw [← e2]
    exact t1 _ e1
  have outt : ∀ q, q < 256 → ¬ (tlo up i j ≤ q ∧ q < tlo up i j + tcn up i j) → thg g o up i (tcn up i j) 5 (256 * o + q) = g 5 (256 * o + q) := fun q _ hq => t2 _ (fun z hz e => by
    obtain ⟨m, hm, e2, -⟩ := rng2 hup hz
    omega)
  have pos : ∀ m, m < tcn up i j → g 6 o + nI (dst up i j m) ≠ -1 := fun m hm => by
    obtain ⟨N, hN, e⟩ := hB o ho h4
    have h1 := (rng hup hm).1
    have h2 : tcn up i j ≤ 256 := by
      cases up with
      | true =>
        show j - i + 1 ≤ 256
        omega
      | false =>
        show i - j + 1 ≤ 256
        omega
    rw [e, nI_add]
    exact nI_m1 (by omega)
  have hf : ∀ q, q < 256 → blk (c 4 o) (tlo up i j) (tcn up i j) (fun _ => 1) q = bz (thg g o up i (tcn up i j) 5 (256 * o + q) ≠ -1) := fun q hq => by
    by_cases e : tlo up i j ≤ q ∧ q < tlo up i j + tcn up i j
    · obtain ⟨m, rfl⟩ : ∃ m, q = tlo up i j + m := ⟨q - tlo up i j, by omega⟩
      rw [blk_in (by omega), inn m (by omega), bz_t (pos m (by omega))]
    · rw [blk_out (by omega), outt q hq e]
      exact b5 q hq
  have hx : c 5 o 0 + nI (tcn up i j) = thg g o up i (tcn up i j) 6 o := by rw [thg_6, pk_us, b4]
  refine sm_ord h (fun k k5 k6 => thg_k k5 k6 _) (fun q hq => by rw [thg_6, pk_un hq]) (fun q y hq hy => t2 _ (fun z hz e => by have := sml z hz; omega)) h4 hx hf (ord_rk (by rw [thg_k (by decide) (by decide)]; exact h4) hx hf (fun q hq hne => ?_))
  by_cases e : tlo up i j ≤ q ∧ q < tlo up i j + tcn up i j
  · obtain ⟨m, rfl⟩ : ∃ m, q = tlo up i j + m := ⟨q - tlo up i j, by omega⟩
    rw [blk_in (by omega), inn m (by omega), b4]
  · rw [outt q hq e] at hne ⊢
    rw [blk_out (by omega), b2 q hq]
    unfold rko
    rw [if_neg (fun x => hne x.2)]
theorem in_z {c4 : Nat → Int32} {g : Nat → Nat → Int32} {o : Nat} {P : Prop} (h : g 4 o = nI 2 → P ∧ ∀ i, i < 256 → c4 i = bz (g 5 (256 * o + i) ≠ -1)) (h4 : g 4 o = nI 2) {i : Nat} (hi : i < 256) : c4 i = 0 ↔ g 5 (256 * o + i) = -1 := by
  rw [(h h4).2 i hi]
  by_cases e : g 5 (256 * o + i) = -1
  · rw [bz_f (fun x => x e)]
    exact ⟨fun _ => e, fun _ => rfl⟩
  · rw [bz_t e]
    exact ⟨fun x => absurd x (by decide), fun x => absurd x e⟩
theorem thr_ex {c4 : Nat → Int32} {g : Nat → Nat → Int32} {o : Nat} {P : Prop} (h : g 4 o = nI 2 → P ∧ ∀ i, i < 256 → c4 i = bz (g 5 (256 * o + i) ≠ -1)) (h4 : g 4 o = nI 2) {up : Bool} {i j : Nat} (hup : up = true ↔ i ≤ j) (hi : i < 256) (hj : j < 256) (q : ∃ q, q < tcn up i j ∧ ¬ c4 (tlo up i j + q) = 0) : ∃ k, k < tcn up i j ∧ g 5 (256 * o + tix up i k) ≠ -1 := by
  obtain ⟨m, hm, e⟩ := q
  obtain ⟨e1, e2⟩ := rng hup hm
  exact ⟨_, e1, fun z => e ((in_z h h4 (rng_lt hup hi hj hm)).mpr (by rw [← e2]; exact z))⟩
theorem thr_all {c4 : Nat → Int32} {g : Nat → Nat → Int32} {o : Nat} {P : Prop} (h : g 4 o = nI 2 → P ∧ ∀ i, i < 256 → c4 i = bz (g 5 (256 * o + i) ≠ -1)) (h4 : g 4 o = nI 2) {up : Bool} {i j : Nat} (hup : up = true ↔ i ≤ j) (hi : i < 256) (hj : j < 256) (q : ∀ q, q < tcn up i j → c4 (tlo up i j + q) = 0) : ∀ k, k < tcn up i j → g 5 (256 * o + tix up i k) = -1 := fun k hk => by
  obtain ⟨m, hm, e, -⟩ := rng2 hup hk
  rw [e]
  exact (in_z h h4 (rng_lt hup hi hj hm)).mp (q m hm)
theorem thr_pos (up : Bool) (i j : Nat) : 1 ≤ tcn up i j := by
  cases up with
  | true =>
    show 1 ≤ j - i + 1
    omega
  | false =>
    show 1 ≤ i - j + 1
    omega
theorem thr_abs {up : Bool} {i j : Nat} (hup : up = true ↔ i ≤ j) (hi : i < 256) (hj : j < 256) : (if 0 ≤ nI j - nI i then nI j - nI i else 0 - (nI j - nI i)) = nI (tcn up i j - 1) := by
  cases up with
  | true => exact abs_up (hup.mp rfl) (by omega)
  | false => exact abs_dn (Nat.le_of_lt (Nat.lt_of_not_le fun q => absurd (hup.mpr q) (by decide))) (by omega)
theorem cp_Tn {h : Nat → Nat} {b : Nat → Nat → Nat} {T : Nat → Nat × Nat} {n n2 : Nat → Nat} (hT : cp_T h b T n) (h0 : n2 0 = n 0) (h1 : n2 1 = n 1) (h2 : n2 2 = n 2) : cp_T h b T n2 := by
  unfold cp_T
  rw [h0, h1, h2]
  exact hT
