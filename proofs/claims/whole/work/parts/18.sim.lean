/-! THE CLASS AND THE REFERENCE SIDE BY SIDE: what the class holds (c) is what the reference holds (g); and what always holds of g -/
def sm_P (n : Nat → Nat) (c : Nat → Nat → Nat → Int32) (g : Nat → Nat → Int32) : Prop := ∀ p, p < n 0 → c 2 p 0 = g 2 p ∧ (∃ z, z < 256 ∧ g 2 p = nI z) ∧ (∀ i, i < 256 → c 1 p i = g 1 (256 * p + i) ∧ okm (g 1 (256 * p + i))) ∧ ∀ i j, i < 256 → j < 256 → g 1 (256 * p + i) = g 1 (256 * p + j) → g 1 (256 * p + i) ≠ -1 → i = j
def sm_O (n : Nat → Nat) (c : Nat → Nat → Nat → Int32) (g : Nat → Nat → Int32) : Prop := ∀ o, o < n 1 → c 6 o 0 = bz (g 4 o = nI 2) ∧ (∀ i, i < 256 → c 3 o i = rko g o i) ∧ (g 4 o = nI 2 → c 5 o 0 = g 6 o ∧ ∀ i, i < 256 → c 4 o i = bz (g 5 (256 * o + i) ≠ -1))
def sm_X (n : Nat → Nat) (c : Nat → Nat → Nat → Int32) (L : Nat → Nat) (X : Nat → Nat → Nat) : Prop := ∀ t, t < n 2 → c 8 t 0 = nI (L t) ∧ ∀ q, q < L t → c 7 t q = nI (X t q)
def sm (n : Nat → Nat) (c : Nat → Nat → Nat → Int32) (g : Nat → Nat → Int32) (L : Nat → Nat) (X : Nat → Nat → Nat) : Prop := sm_P n c g ∧ sm_O n c g ∧ sm_X n c L X ∧ mo_X n g L X ∧ ∀ j, j < n 3 → c 9 0 j = g 11 j
theorem ff_none {f : Nat → Int32} {u : Int32} : ∀ (m i : Nat), (∀ j, i ≤ j → j < i + m → f j ≠ u) → ff f u i m = -1
  | 0, _, _ => rfl
  | m + 1, i, h => by
    rw [ff, if_neg (h i (Nat.le_refl _) (by omega))]
    exact ff_none m (i + 1) (fun j h1 h2 => h j (by omega) (by omega))
theorem ff_one {f : Nat → Int32} {u : Int32} {j : Nat} (hj : f j = u) : ∀ (m i : Nat), i ≤ j → j < i + m → (∀ q, i ≤ q → q < j → f q ≠ u) → ff f u i m = nI j
  | 0, i, h1, h2, _ => absurd h2 (by omega)
  | m + 1, i, h1, h2, h => by
    by_cases he : i = j
    · subst he
      rw [ff, if_pos hj]
    · rw [ff, if_neg (h i (Nat.le_refl _) (by omega))]
      exact ff_one hj m (i + 1) (by omega) (by omega) (fun q a b => h q (by omega) b)
theorem fl_none {f : Nat → Int32} {u : Int32} : ∀ (m : Nat), (∀ j, j < m → f j ≠ u) → fl f u m = -1
  | 0, _ => rfl
  | m + 1, h => by
    rw [fl, if_neg (h m (by omega))]
    exact fl_none m (fun j hj => h j (by omega))
theorem fl_one {f : Nat → Int32} {u : Int32} {j : Nat} (hj : f j = u) : ∀ (m : Nat), j < m → (∀ q, j < q → q < m → f q ≠ u) → fl f u m = nI j
  | 0, h, _ => absurd h (by omega)
  | m + 1, h1, h => by
    by_cases he : j = m
    · subst he
      rw [fl, if_pos hj]
    · rw [fl, if_neg (h m (by omega) (by omega))]
      exact fl_one hj m (by omega) (fun q a b => h q a (by omega))
/-- what a look-up in the reference says -/
theorem mf_spec {n : Nat → Nat} {c : Nat → Nat → Nat → Int32} {g : Nat → Nat → Int32} (h : sm_P n c g) {p : Nat} (hp : p < n 0) (u : Int32) : pfind (c 1 p) u = mf g p u ∧ ((mf g p u = -1 ∧ (u = -1 ∨ ∀ i, i < 256 → g 1 (256 * p + i) ≠ u)) ∨ ∃ j, j < 256 ∧ mf g p u = nI j ∧ g 1 (256 * p + j) = u ∧ u ≠ -1) := by
  obtain ⟨-, -, h3, h4⟩ := h p hp
  unfold pfind mf
  by_cases hu : u = -1
  · rw [if_pos hu, if_pos hu]
    exact ⟨rfl, Or.inl ⟨rfl, Or.inl hu⟩⟩
  · rw [if_neg hu, if_neg hu]
    by_cases hx : ∃ j, j < 256 ∧ g 1 (256 * p + j) = u
    · obtain ⟨j, hj, he⟩ := hx
      have un : ∀ q, q < 256 → q ≠ j → g 1 (256 * p + q) ≠ u := fun q hq hqj e => hqj (h4 q j hq hj (e.trans he.symm) (by rw [e]; exact hu))
      rw [ff_one (j := j) ((h3 j hj).1.trans he) 256 0 (by omega) (by omega) (fun q _ hq => by rw [(h3 q (by omega)).1]; exact un q (by omega) (by omega)), fl_one (f := fun i => g 1 (256 * p + i)) (j := j) he 256 hj (fun q h1 h2 => un q h2 (by omega))]
      exact ⟨rfl, Or.inr ⟨j, hj, rfl, he, hu⟩⟩
    · have no : ∀ j, j < 256 → g 1 (256 * p + j) ≠ u := fun j hj e => hx ⟨j, hj, e⟩
      rw [ff_none 256 0 (fun j _ hj => by rw [(h3 j (by omega)).1]; exact no j (by omega)), fl_none 256 (fun j hj => no j hj)]
      exact ⟨rfl, Or.inl ⟨rfl, Or.inr no⟩⟩
theorem nI_m1 {j : Nat} (hj : j < 2 ^ 31) : nI j ≠ -1 := fun e => by
  have := congrArg Int32.toInt e
  rw [nI_toInt hj] at this
  have h2 : (-1 : Int32).toInt = -1 := by decide
  omega
/-- a meaning is told -/
theorem sm_set {n : Nat → Nat} {c : Nat → Nat → Nat → Int32} {g : Nat → Nat → Int32} {L : Nat → Nat} {X : Nat → Nat → Nat} (h : sm n c g L X) {p j : Nat} (hp : p < n 0) (hj : j < 256) {u : Int32} (hu : okm u) (hm : mf g p u = -1 ∨ mf g p u = nI j) : sm n (up3 c 1 p (upd (c 1 p) j u)) (va_up g 1 (upd (g 1) (256 * p + j) u)) L X := by
  obtain ⟨h1, h2, h3, h4, h5⟩ := h
  have hs := (mf_spec h1 hp u).2
  refine ⟨fun q hq => ?_, h2, h3, h4, h5⟩
  obtain ⟨a1, a2, a3, a4⟩ := h1 q hq
  refine ⟨a1, a2, fun i hi => ?_, fun i i2 hi hi2 e1 e2 => ?_⟩
  · rw [va_up_self]
    by_cases hqp : q = p
    · subst hqp
      rw [up3_s]
      by_cases hij : i = j
      · subst hij
        rw [pk_us, pk_us]
        exact ⟨rfl, hu⟩
      · rw [pk_un hij, pk_un (by omega)]
        exact a3 i hi
    · rw [up3_n hqp, pk_un (by omega)]
      exact a3 i hi
  · rw [va_up_self] at e1 e2
    by_cases hqp : q = p
    · subst hqp
      by_cases hij : i = j
      · by_cases hi2j : i2 = j
        · omega
        · subst hij
          rw [pk_us] at e1 e2
          rw [pk_un (by omega)] at e1
          rcases hs with ⟨-, hs | hs⟩ | ⟨j2, hj2, hs1, hs2, -⟩
          · exact absurd hs e2
          · exact absurd e1.symm (hs i2 hi2)
          · rcases hm with hm | hm
            · exact absurd (hs1.symm.trans hm) (nI_m1 (by omega))
            · have := (nI_eq (by omega) (by omega)).mp (hs1.symm.trans hm)
              subst this
              exact (a4 i2 j2 hi2 hj2 (e1.symm.trans hs2.symm) (by rw [← e1]; exact e2)).symm
      · by_cases hi2j : i2 = j
        · subst hi2j
          rw [pk_us] at e1
          rw [pk_un (by omega)] at e1 e2
          rcases hs with ⟨-, hs | hs⟩ | ⟨j2, hj2, hs1, hs2, -⟩
          · exact absurd (e1.trans hs) e2
          · exact absurd e1 (hs i hi)
          · rcases hm with hm | hm
            · exact absurd (hs1.symm.trans hm) (nI_m1 (by omega))
            · have := (nI_eq (by omega) (by omega)).mp (hs1.symm.trans hm)
              subst this
              exact a4 i j2 hi hj2 (e1.trans hs2.symm) e2
        · rw [pk_un (by omega), pk_un (by omega)] at e1
          rw [pk_un (by omega)] at e2
          exact a4 i i2 hi hi2 e1 e2
    · rw [pk_un (by omega), pk_un (by omega)] at e1
      rw [pk_un (by omega)] at e2
      exact a4 i i2 hi hi2 e1 e2
theorem sm_stand {n : Nat → Nat} {c : Nat → Nat → Nat → Int32} {g : Nat → Nat → Int32} {L : Nat → Nat} {X : Nat → Nat → Nat} (h : sm n c g L X) {p j : Nat} (hj : j < 256) : sm n (up3 c 2 p (fun _ => nI j)) (va_up g 2 (upd (g 2) p (nI j))) L X := by
  obtain ⟨h1, h2, h3, h4, h5⟩ := h
  refine ⟨fun q hq => ?_, h2, h3, h4, h5⟩
  obtain ⟨a1, a2, a3, a4⟩ := h1 q hq
  refine ⟨?_, ?_, a3, a4⟩
  · rw [va_up_self]
    by_cases hqp : q = p
    · subst hqp
      rw [up3_s, pk_us]
    · rw [up3_n hqp, pk_un hqp]
      exact a1
  · rw [va_up_self]
    by_cases hqp : q = p
    · subst hqp
      exact ⟨j, hj, pk_us⟩
    · rw [pk_un hqp]
      exact a2
theorem sm_lst {n : Nat → Nat} {c : Nat → Nat → Nat → Int32} {g : Nat → Nat → Int32} {L : Nat → Nat} {X : Nat → Nat → Nat} (h : sm n c g L X) (x : Int32) : sm (va_up n 3 (n 3 + 1)) (up3 c 9 0 (upd (c 9 0) (n 3) x)) (va_up g 11 (upd (g 11) (n 3) x)) L X := by
  obtain ⟨h1, h2, h3, h4, h5⟩ := h
  refine ⟨h1, h2, h3, h4, fun j hj => ?_⟩
  rw [up3_s, va_up_self]
  rw [va_up_self] at hj
  by_cases e : j = n 3
  · subst e
    rw [pk_us, pk_us]
  · rw [pk_un e, pk_un e]
    exact h5 j (by omega)
theorem sm_sgn {n : Nat → Nat} {c : Nat → Nat → Nat → Int32} {g : Nat → Nat → Int32} {L : Nat → Nat} {X : Nat → Nat → Nat} (h : sm n c g L X) {t j : Nat} (ht : t < n 2) (hj : j < 256) (hL : L t < 40) : sm n (up3 (up3 c 7 t (upd (c 7 t) (L t) (nI j))) 8 t (fun _ => nI (L t + 1))) (va_up (va_up g 8 (upd (g 8) (40 * t + L t) (nI j))) 9 (upd (g 9) t (nI (L t + 1)))) (va_up L t (L t + 1)) (va_up X t (va_up (X t) (L t) j)) := by
  obtain ⟨h1, h2, h3, h4, h5⟩ := h
  refine ⟨h1, h2, fun q hq => ?_, fun q hq => ?_, h5⟩
  · by_cases e : q = t
    · subst e
      obtain ⟨a1, a2⟩ := h3 q hq
      refine ⟨by rw [up3_s, va_up_self], fun i hi => ?_⟩
      rw [va_up_self] at hi
      rw [up3_o (by decide), up3_s, va_up_self]
      by_cases e2 : i = L q
      · subst e2
        rw [pk_us, va_up_self]
      · rw [pk_un e2, va_up_ne _ _ e2]
        exact a2 i (by omega)
    · obtain ⟨a1, a2⟩ := h3 q hq
      refine ⟨by rw [up3_n e, up3_o (by decide), va_up_ne _ _ e]; exact a1, fun i hi => ?_⟩
      rw [va_up_ne _ _ e] at hi
      rw [up3_o (by decide), up3_n e, va_up_ne _ _ e]
      exact a2 i hi
  · obtain ⟨b1, b2, b3⟩ := h4 q hq
    rw [va_up_self, va_up_ne (va_up g 8 _) _ (show 8 ≠ 9 by decide), va_up_self]
    by_cases e : q = t
    · subst e
      rw [va_up_self, va_up_self]
      refine ⟨by omega, pk_us, fun i hi => ?_⟩
      by_cases e2 : i = L q
      · subst e2
        rw [va_up_self, pk_us]
        exact ⟨hj, rfl⟩
      · rw [va_up_ne _ _ e2, pk_un (by omega)]
        exact b3 i (by omega)
    · rw [va_up_ne _ _ e, va_up_ne _ _ e]
      have := (h4 t ht).1
      refine ⟨b1, by rw [pk_un e]; exact b2, fun i hi => ?_⟩
      rw [pk_un (by omega)]
      exact b3 i hi
/-- a code of a text is changed -/
theorem sm_cod {n : Nat → Nat} {c : Nat → Nat → Nat → Int32} {g : Nat → Nat → Int32} {L : Nat → Nat} {X : Nat → Nat → Nat} (h : sm n c g L X) {t q j : Nat} (ht : t < n 2) (hj : j < 256) (hq : q < L t) : sm n (up3 c 7 t (upd (c 7 t) q (nI j))) (va_up g 8 (upd (g 8) (40 * t + q) (nI j))) L (va_up X t (va_up (X t) q j)) := by
  obtain ⟨h1, h2, h3, h4, h5⟩ := h
  refine ⟨h1, h2, fun y hy => ?_, fun y hy => ?_, h5⟩
  · obtain ⟨a1, a2⟩ := h3 y hy
    refine ⟨a1, fun i hi => ?_⟩
    by_cases e : y = t
    · subst e
      rw [up3_s, va_up_self]
      by_cases e2 : i = q
      · subst e2
        rw [pk_us, va_up_self]
      · rw [pk_un e2, va_up_ne _ _ e2]
        exact a2 i hi
    · rw [up3_n e, va_up_ne _ _ e]
      exact a2 i hi
  · obtain ⟨b1, b2, b3⟩ := h4 y hy
    refine ⟨b1, b2, fun i hi => ?_⟩
    rw [va_up_self]
    have := (h4 t ht).1
    by_cases e : y = t
    · subst e
      rw [va_up_self]
      by_cases e2 : i = q
      · subst e2
        rw [va_up_self, pk_us]
        exact ⟨hj, rfl⟩
      · rw [va_up_ne _ _ e2, pk_un (by omega)]
        exact b3 i hi
    · rw [va_up_ne _ _ e, pk_un (by omega)]
      exact b3 i hi
theorem hgh_ext {f f2 : Nat → Int32} : ∀ {c : Nat}, (∀ i, i ≤ c → f i = f2 i) → hgh f c = hgh f2 c
  | 0, _ => rfl
  | c + 1, h => by
    have e : hgh f c = hgh f2 c := hgh_ext (fun i hi => h i (by omega))
    have := hgh_le f2 c
    rw [hgh, hgh, e, h (c + 1) (Nat.le_refl _), h (hgh f2 c) (by omega)]
theorem tr_code {n n2 : Nat → Nat} {c : Nat → Nat → Nat → Int32} {g g2 : Nat → Nat → Int32} (h : sm_P n c g) {j p q d : Nat} {r : Int32} (hq : q < n 0) (hr : R_tr n g j p q r n2 g2 d) : ∃ z, z < 256 ∧ r = nI z := by
  rcases hr with ⟨h1, h2, -⟩ | ⟨-, h2, -⟩
  · rcases (mf_spec h hq (g 1 (256 * p + j))).2 with ⟨e, -⟩ | ⟨z, hz, e, -⟩
    · exact absurd e h1
    · exact ⟨z, hz, h2.trans e⟩
  · obtain ⟨z, hz, e⟩ := (h q hq).2.1
    exact ⟨z, hz, h2.trans e⟩
theorem cmpf_eq {f h : Nat → Int32} : ∀ (m k : Nat), (∀ q, k ≤ q → f q = h q) → cmpf f h k m = 0
  | 0, _, _ => rfl
  | m + 1, k, e => by
    rw [cmpf, if_pos (e k (Nat.le_refl _))]
    exact cmpf_eq m (k + 1) (fun q hq => e q (by omega))
theorem rdn_blank {L : Nat → Nat} {X : Nat → Nat → Nat} {t q : Nat} (h : L t ≤ q) : rdn L X t q = 32 := if_neg (by omega)
theorem max_ex {a b : Nat} (ha : a ≤ 40) (hb : b ≤ 40) : ∃ m, a ≤ m ∧ b ≤ m ∧ m ≤ 40 ∧ (if nI a < nI b then nI b else nI a) = nI m := by
  by_cases h : a < b
  · exact ⟨b, by omega, by omega, hb, if_pos (nI_lt h (by omega))⟩
  · exact ⟨a, by omega, by omega, ha, if_neg (nI_nlt (by omega) (by omega))⟩
