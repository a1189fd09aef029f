/-! THE CLASS'S CELLS: h its object and four arrays, b the objects and arrays of pages (1, 2), orders (3, 4, 5), texts (6, 7); n how many; c what they hold; T says of an address what it is -/
def up3 (c : Nat → Nat → Nat → Int32) (j i : Nat) (f : Nat → Int32) : Nat → Nat → Nat → Int32 := va_up c j (va_up (c j) i f)
theorem up3_s {c : Nat → Nat → Nat → Int32} {j i : Nat} {f : Nat → Int32} : up3 c j i f j i = f := by unfold up3; rw [va_up_self, va_up_self]
theorem up3_n {c : Nat → Nat → Nat → Int32} {j i q : Nat} {f : Nat → Int32} (h : q ≠ i) : up3 c j i f j q = c j q := by unfold up3; rw [va_up_self, va_up_ne _ _ h]
theorem up3_o {c : Nat → Nat → Nat → Int32} {j i q : Nat} {f : Nat → Int32} (h : q ≠ j) : up3 c j i f q = c q := by unfold up3; rw [va_up_ne _ _ h]
abbrev cp_r (h n : Nat → Nat) : va_E := .inr (4, [.ref (h 1), .ref (h 2), .ref (h 3), .ref (h 4), .int (nI (n 0)), .int (nI (n 1)), .int (nI (n 2)), .int (nI (n 3))])
abbrev cp_pg (b : Nat → Nat → Nat) (c : Nat → Nat → Nat → Int32) (p : Nat) : va_E := .inr (2, [.ref (b 2 p), .int (c 2 p 0)])
abbrev cp_or (b : Nat → Nat → Nat) (c : Nat → Nat → Nat → Int32) (o : Nat) : va_E := .inr (1, [.int (c 6 o 0), .ref (b 4 o), .ref (b 5 o), .int (c 5 o 0)])
abbrev cp_tx (b : Nat → Nat → Nat) (c : Nat → Nat → Nat → Int32) (t : Nat) : va_E := .inr (3, [.ref (b 7 t), .int (c 8 t 0)])
def cp_R (k : Nat → ClassId) (h : Nat → Nat) (b : Nat → Nat → Nat) (n : Nat → Nat) (c : Nat → Nat → Nat → Int32) (M : mw) : Prop :=
  (M (h 0) = some (cp_r h n) ∧ M (h 1) = some (cp_q (k 2) 12 (n 0) (b 1)) ∧ M (h 2) = some (cp_q (k 3) 12 (n 1) (b 3)) ∧ M (h 3) = some (cp_q (k 4) 40 (n 2) (b 6)) ∧ M (h 4) = some (.inl (k 0, 200, .inl (c 9 0)))) ∧
  (∀ p, p < n 0 → M (b 1 p) = some (cp_pg b c p) ∧ M (b 2 p) = some (.inl (k 0, 256, .inl (c 1 p)))) ∧
  (∀ o, o < n 1 → M (b 3 o) = some (cp_or b c o) ∧ M (b 4 o) = some (.inl (k 0, 256, .inl (c 3 o))) ∧ M (b 5 o) = some (.inl (k 1, 256, .inl (c 4 o)))) ∧
  (∀ t, t < n 2 → M (b 6 t) = some (cp_tx b c t) ∧ M (b 7 t) = some (.inl (k 0, 40, .inl (c 7 t))))
def cp_T (h : Nat → Nat) (b : Nat → Nat → Nat) (T : Nat → Nat × Nat) (n : Nat → Nat) : Prop :=
  (∀ j, j < 5 → T (h j) = (0, j)) ∧ (∀ p, p < n 0 → T (b 1 p) = (1, p) ∧ T (b 2 p) = (2, p)) ∧ (∀ o, o < n 1 → T (b 3 o) = (3, o) ∧ T (b 4 o) = (4, o) ∧ T (b 5 o) = (5, o)) ∧ (∀ t, t < n 2 → T (b 6 t) = (6, t) ∧ T (b 7 t) = (7, t))
theorem tg {T : Nat → Nat × Nat} {x y : Nat} {a b : Nat × Nat} (hx : T x = a) (hy : T y = b) (h : a ≠ b) : x ≠ y := fun e => h (by rw [← hx, ← hy, e])
theorem q_add {n : Nat} {pa : Nat → Nat} {a : Nat} : va_up (fun p => if p < n then some (pa p) else none) n (some a) = fun p => if p < n + 1 then some (va_up pa n a p) else none := by
  funext p
  by_cases h : p = n
  · subst h
    rw [va_up_self, if_pos (by omega), va_up_self]
  · rw [va_up_ne _ _ h, va_up_ne _ _ h]
    by_cases h2 : p < n
    · rw [if_pos h2, if_pos (by omega)]
    · rw [if_neg h2, if_neg (by omega)]
def up2 (b : Nat → Nat → Nat) (j i a : Nat) : Nat → Nat → Nat := va_up b j (va_up (b j) i a)
theorem up2_s {b : Nat → Nat → Nat} {j i a : Nat} : up2 b j i a j i = a := by unfold up2; rw [va_up_self, va_up_self]
theorem up2_n {b : Nat → Nat → Nat} {j i q a : Nat} (h : q ≠ i) : up2 b j i a j q = b j q := by unfold up2; rw [va_up_self, va_up_ne _ _ h]
theorem up2_o {b : Nat → Nat → Nat} {j i q a : Nat} (h : q ≠ j) : up2 b j i a q = b q := by unfold up2; rw [va_up_ne _ _ h]
section CP
variable {k : Nat → ClassId} {h : Nat → Nat} {b : Nat → Nat → Nat} {T : Nat → Nat × Nat} {n : Nat → Nat} {c : Nat → Nat → Nat → Int32} {M M1 : mw}
theorem cp_fix {M : mw} {a : Nat} {e e2 : va_E} (h : M a = some e) (he : e = e2) : M a = some e2 := he ▸ h
theorem cp_set1 (hR : cp_R k h b n c M) (hT : cp_T h b T n) {p : Nat} (hp : p < n 0) {f : Nat → Int32} (g1 : M1 (b 2 p) = some (.inl (k 0, 256, .inl f))) (hf : ∀ x, x ≠ b 2 p → M1 x = M x) : cp_R k h b n (up3 c 1 p f) M1 := by
  refine ⟨⟨(hf _ (tg (hT.1 0 (by decide)) (hT.2.1 p hp).2 (by simp))).trans hR.1.1, (hf _ (tg (hT.1 1 (by decide)) (hT.2.1 p hp).2 (by simp))).trans hR.1.2.1, (hf _ (tg (hT.1 2 (by decide)) (hT.2.1 p hp).2 (by simp))).trans hR.1.2.2.1, (hf _ (tg (hT.1 3 (by decide)) (hT.2.1 p hp).2 (by simp))).trans hR.1.2.2.2.1, (hf _ (tg (hT.1 4 (by decide)) (hT.2.1 p hp).2 (by simp))).trans hR.1.2.2.2.2⟩, ?_, ?_, ?_⟩
  · intro p9 hp9
    by_cases hq : p9 = p
    · subst hq
      refine ⟨?_, ?_⟩
      · exact cp_fix ((hf _ (tg (hT.2.1 p9 hp9).1 (hT.2.1 p9 hp9).2 (by simp))).trans (hR.2.1 p9 hp9).1) (by simp [cp_pg, cp_or, cp_tx, up3, va_up])
      · exact cp_fix (g1) (by simp [cp_pg, cp_or, cp_tx, up3, va_up])
    · refine ⟨?_, ?_⟩
      · exact cp_fix ((hf _ (tg (hT.2.1 p9 hp9).1 (hT.2.1 p hp).2 (by simp))).trans (hR.2.1 p9 hp9).1) (by simp [cp_pg, cp_or, cp_tx, up3, va_up, hq])
      · exact cp_fix ((hf _ (tg (hT.2.1 p9 hp9).2 (hT.2.1 p hp).2 (by simp [hq]))).trans (hR.2.1 p9 hp9).2) (by simp [cp_pg, cp_or, cp_tx, up3, va_up, hq])
  · intro o9 ho9
    refine ⟨?_, ?_, ?_⟩
    · exact cp_fix ((hf _ (tg (hT.2.2.1 o9 ho9).1 (hT.2.1 p hp).2 (by simp))).trans (hR.2.2.1 o9 ho9).1) (by simp [cp_pg, cp_or, cp_tx, up3, va_up])
    · exact cp_fix ((hf _ (tg (hT.2.2.1 o9 ho9).2.1 (hT.2.1 p hp).2 (by simp))).trans (hR.2.2.1 o9 ho9).2.1) (by simp [cp_pg, cp_or, cp_tx, up3, va_up])
    · exact cp_fix ((hf _ (tg (hT.2.2.1 o9 ho9).2.2 (hT.2.1 p hp).2 (by simp))).trans (hR.2.2.1 o9 ho9).2.2) (by simp [cp_pg, cp_or, cp_tx, up3, va_up])
  · intro t9 ht9
    refine ⟨?_, ?_⟩
    · exact cp_fix ((hf _ (tg (hT.2.2.2 t9 ht9).1 (hT.2.1 p hp).2 (by simp))).trans (hR.2.2.2 t9 ht9).1) (by simp [cp_pg, cp_or, cp_tx, up3, va_up])
    · exact cp_fix ((hf _ (tg (hT.2.2.2 t9 ht9).2 (hT.2.1 p hp).2 (by simp))).trans (hR.2.2.2 t9 ht9).2) (by simp [cp_pg, cp_or, cp_tx, up3, va_up])

theorem cp_set2 (hR : cp_R k h b n c M) (hT : cp_T h b T n) {p : Nat} (hp : p < n 0) {x : Int32} (g1 : M1 (b 1 p) = some (.inr (2, [.ref (b 2 p), .int x]))) (hf : ∀ x, x ≠ b 1 p → M1 x = M x) : cp_R k h b n (up3 c 2 p (fun _ => x)) M1 := by
  refine ⟨⟨(hf _ (tg (hT.1 0 (by decide)) (hT.2.1 p hp).1 (by simp))).trans hR.1.1, (hf _ (tg (hT.1 1 (by decide)) (hT.2.1 p hp).1 (by simp))).trans hR.1.2.1, (hf _ (tg (hT.1 2 (by decide)) (hT.2.1 p hp).1 (by simp))).trans hR.1.2.2.1, (hf _ (tg (hT.1 3 (by decide)) (hT.2.1 p hp).1 (by simp))).trans hR.1.2.2.2.1, (hf _ (tg (hT.1 4 (by decide)) (hT.2.1 p hp).1 (by simp))).trans hR.1.2.2.2.2⟩, ?_, ?_, ?_⟩
  · intro p9 hp9
    by_cases hq : p9 = p
    · subst hq
      refine ⟨?_, ?_⟩
      · exact cp_fix (g1) (by simp [cp_pg, cp_or, cp_tx, up3, va_up])
      · exact cp_fix ((hf _ (tg (hT.2.1 p9 hp9).2 (hT.2.1 p9 hp9).1 (by simp))).trans (hR.2.1 p9 hp9).2) (by simp [cp_pg, cp_or, cp_tx, up3, va_up])
    · refine ⟨?_, ?_⟩
      · exact cp_fix ((hf _ (tg (hT.2.1 p9 hp9).1 (hT.2.1 p hp).1 (by simp [hq]))).trans (hR.2.1 p9 hp9).1) (by simp [cp_pg, cp_or, cp_tx, up3, va_up, hq])
      · exact cp_fix ((hf _ (tg (hT.2.1 p9 hp9).2 (hT.2.1 p hp).1 (by simp))).trans (hR.2.1 p9 hp9).2) (by simp [cp_pg, cp_or, cp_tx, up3, va_up, hq])
  · intro o9 ho9
    refine ⟨?_, ?_, ?_⟩
    · exact cp_fix ((hf _ (tg (hT.2.2.1 o9 ho9).1 (hT.2.1 p hp).1 (by simp))).trans (hR.2.2.1 o9 ho9).1) (by simp [cp_pg, cp_or, cp_tx, up3, va_up])
    · exact cp_fix ((hf _ (tg (hT.2.2.1 o9 ho9).2.1 (hT.2.1 p hp).1 (by simp))).trans (hR.2.2.1 o9 ho9).2.1) (by simp [cp_pg, cp_or, cp_tx, up3, va_up])
    · exact cp_fix ((hf _ (tg (hT.2.2.1 o9 ho9).2.2 (hT.2.1 p hp).1 (by simp))).trans (hR.2.2.1 o9 ho9).2.2) (by simp [cp_pg, cp_or, cp_tx, up3, va_up])
  · intro t9 ht9
    refine ⟨?_, ?_⟩
    · exact cp_fix ((hf _ (tg (hT.2.2.2 t9 ht9).1 (hT.2.1 p hp).1 (by simp))).trans (hR.2.2.2 t9 ht9).1) (by simp [cp_pg, cp_or, cp_tx, up3, va_up])
    · exact cp_fix ((hf _ (tg (hT.2.2.2 t9 ht9).2 (hT.2.1 p hp).1 (by simp))).trans (hR.2.2.2 t9 ht9).2) (by simp [cp_pg, cp_or, cp_tx, up3, va_up])

theorem cp_cod (hR : cp_R k h b n c M) (hT : cp_T h b T n) {t : Nat} (ht : t < n 2) {f : Nat → Int32} (g1 : M1 (b 7 t) = some (.inl (k 0, 40, .inl f))) (hf : ∀ x, x ≠ b 7 t → M1 x = M x) : cp_R k h b n (up3 c 7 t f) M1 := by
  refine ⟨⟨(hf _ (tg (hT.1 0 (by decide)) (hT.2.2.2 t ht).2 (by simp))).trans hR.1.1, (hf _ (tg (hT.1 1 (by decide)) (hT.2.2.2 t ht).2 (by simp))).trans hR.1.2.1, (hf _ (tg (hT.1 2 (by decide)) (hT.2.2.2 t ht).2 (by simp))).trans hR.1.2.2.1, (hf _ (tg (hT.1 3 (by decide)) (hT.2.2.2 t ht).2 (by simp))).trans hR.1.2.2.2.1, (hf _ (tg (hT.1 4 (by decide)) (hT.2.2.2 t ht).2 (by simp))).trans hR.1.2.2.2.2⟩, ?_, ?_, ?_⟩
  · intro p9 hp9
    refine ⟨?_, ?_⟩
    · exact cp_fix ((hf _ (tg (hT.2.1 p9 hp9).1 (hT.2.2.2 t ht).2 (by simp))).trans (hR.2.1 p9 hp9).1) (by simp [cp_pg, cp_or, cp_tx, up3, va_up])
    · exact cp_fix ((hf _ (tg (hT.2.1 p9 hp9).2 (hT.2.2.2 t ht).2 (by simp))).trans (hR.2.1 p9 hp9).2) (by simp [cp_pg, cp_or, cp_tx, up3, va_up])
  · intro o9 ho9
    refine ⟨?_, ?_, ?_⟩
    · exact cp_fix ((hf _ (tg (hT.2.2.1 o9 ho9).1 (hT.2.2.2 t ht).2 (by simp))).trans (hR.2.2.1 o9 ho9).1) (by simp [cp_pg, cp_or, cp_tx, up3, va_up])
    · exact cp_fix ((hf _ (tg (hT.2.2.1 o9 ho9).2.1 (hT.2.2.2 t ht).2 (by simp))).trans (hR.2.2.1 o9 ho9).2.1) (by simp [cp_pg, cp_or, cp_tx, up3, va_up])
    · exact cp_fix ((hf _ (tg (hT.2.2.1 o9 ho9).2.2 (hT.2.2.2 t ht).2 (by simp))).trans (hR.2.2.1 o9 ho9).2.2) (by simp [cp_pg, cp_or, cp_tx, up3, va_up])
  · intro t9 ht9
    by_cases hq : t9 = t
    · subst hq
      refine ⟨?_, ?_⟩
      · exact cp_fix ((hf _ (tg (hT.2.2.2 t9 ht9).1 (hT.2.2.2 t9 ht9).2 (by simp))).trans (hR.2.2.2 t9 ht9).1) (by simp [cp_pg, cp_or, cp_tx, up3, va_up])
      · exact cp_fix (g1) (by simp [cp_pg, cp_or, cp_tx, up3, va_up])
    · refine ⟨?_, ?_⟩
      · exact cp_fix ((hf _ (tg (hT.2.2.2 t9 ht9).1 (hT.2.2.2 t ht).2 (by simp))).trans (hR.2.2.2 t9 ht9).1) (by simp [cp_pg, cp_or, cp_tx, up3, va_up, hq])
      · exact cp_fix ((hf _ (tg (hT.2.2.2 t9 ht9).2 (hT.2.2.2 t ht).2 (by simp [hq]))).trans (hR.2.2.2 t9 ht9).2) (by simp [cp_pg, cp_or, cp_tx, up3, va_up, hq])

theorem cp_sgn (hR : cp_R k h b n c M) (hT : cp_T h b T n) {t : Nat} (ht : t < n 2) {f : Nat → Int32} {x : Int32} (g1 : M1 (b 7 t) = some (.inl (k 0, 40, .inl f))) (g2 : M1 (b 6 t) = some (.inr (3, [.ref (b 7 t), .int x]))) (hf : ∀ x, x ≠ b 7 t → x ≠ b 6 t → M1 x = M x) : cp_R k h b n (up3 (up3 c 7 t f) 8 t (fun _ => x)) M1 := by
  refine ⟨⟨(hf _ (tg (hT.1 0 (by decide)) (hT.2.2.2 t ht).2 (by simp)) (tg (hT.1 0 (by decide)) (hT.2.2.2 t ht).1 (by simp))).trans hR.1.1, (hf _ (tg (hT.1 1 (by decide)) (hT.2.2.2 t ht).2 (by simp)) (tg (hT.1 1 (by decide)) (hT.2.2.2 t ht).1 (by simp))).trans hR.1.2.1, (hf _ (tg (hT.1 2 (by decide)) (hT.2.2.2 t ht).2 (by simp)) (tg (hT.1 2 (by decide)) (hT.2.2.2 t ht).1 (by simp))).trans hR.1.2.2.1, (hf _ (tg (hT.1 3 (by decide)) (hT.2.2.2 t ht).2 (by simp)) (tg (hT.1 3 (by decide)) (hT.2.2.2 t ht).1 (by simp))).trans hR.1.2.2.2.1, (hf _ (tg (hT.1 4 (by decide)) (hT.2.2.2 t ht).2 (by simp)) (tg (hT.1 4 (by decide)) (hT.2.2.2 t ht).1 (by simp))).trans hR.1.2.2.2.2⟩, ?_, ?_, ?_⟩
  · intro p9 hp9
    refine ⟨?_, ?_⟩
    · exact cp_fix ((hf _ (tg (hT.2.1 p9 hp9).1 (hT.2.2.2 t ht).2 (by simp)) (tg (hT.2.1 p9 hp9).1 (hT.2.2.2 t ht).1 (by simp))).trans (hR.2.1 p9 hp9).1) (by simp [cp_pg, cp_or, cp_tx, up3, va_up])
    · exact cp_fix ((hf _ (tg (hT.2.1 p9 hp9).2 (hT.2.2.2 t ht).2 (by simp)) (tg (hT.2.1 p9 hp9).2 (hT.2.2.2 t ht).1 (by simp))).trans (hR.2.1 p9 hp9).2) (by simp [cp_pg, cp_or, cp_tx, up3, va_up])
  · intro o9 ho9
    refine ⟨?_, ?_, ?_⟩
    · exact cp_fix ((hf _ (tg (hT.2.2.1 o9 ho9).1 (hT.2.2.2 t ht).2 (by simp)) (tg (hT.2.2.1 o9 ho9).1 (hT.2.2.2 t ht).1 (by simp))).trans (hR.2.2.1 o9 ho9).1) (by simp [cp_pg, cp_or, cp_tx, up3, va_up])
    · exact cp_fix ((hf _ (tg (hT.2.2.1 o9 ho9).2.1 (hT.2.2.2 t ht).2 (by simp)) (tg (hT.2.2.1 o9 ho9).2.1 (hT.2.2.2 t ht).1 (by simp))).trans (hR.2.2.1 o9 ho9).2.1) (by simp [cp_pg, cp_or, cp_tx, up3, va_up])
    · exact cp_fix ((hf _ (tg (hT.2.2.1 o9 ho9).2.2 (hT.2.2.2 t ht).2 (by simp)) (tg (hT.2.2.1 o9 ho9).2.2 (hT.2.2.2 t ht).1 (by simp))).trans (hR.2.2.1 o9 ho9).2.2) (by simp [cp_pg, cp_or, cp_tx, up3, va_up])
  · intro t9 ht9
    by_cases hq : t9 = t
    · subst hq
      refine ⟨?_, ?_⟩
      · exact cp_fix (g2) (by simp [cp_pg, cp_or, cp_tx, up3, va_up])
      · exact cp_fix (g1) (by simp [cp_pg, cp_or, cp_tx, up3, va_up])
    · refine ⟨?_, ?_⟩
      · exact cp_fix ((hf _ (tg (hT.2.2.2 t9 ht9).1 (hT.2.2.2 t ht).2 (by simp)) (tg (hT.2.2.2 t9 ht9).1 (hT.2.2.2 t ht).1 (by simp [hq]))).trans (hR.2.2.2 t9 ht9).1) (by simp [cp_pg, cp_or, cp_tx, up3, va_up, hq])
      · exact cp_fix ((hf _ (tg (hT.2.2.2 t9 ht9).2 (hT.2.2.2 t ht).2 (by simp [hq])) (tg (hT.2.2.2 t9 ht9).2 (hT.2.2.2 t ht).1 (by simp))).trans (hR.2.2.2 t9 ht9).2) (by simp [cp_pg, cp_or, cp_tx, up3, va_up, hq])

theorem cp_ord (hR : cp_R k h b n c M) (hT : cp_T h b T n) {o : Nat} (ho : o < n 1) {f3 f4 : Nat → Int32} {x : Int32} (g1 : M1 (b 3 o) = some (.inr (1, [.int (c 6 o 0), .ref (b 4 o), .ref (b 5 o), .int x]))) (g2 : M1 (b 4 o) = some (.inl (k 0, 256, .inl f3))) (g3 : M1 (b 5 o) = some (.inl (k 1, 256, .inl f4))) (hf : ∀ x, x ≠ b 3 o → x ≠ b 4 o → x ≠ b 5 o → M1 x = M x) : cp_R k h b n (up3 (up3 (up3 c 3 o f3) 4 o f4) 5 o (fun _ => x)) M1 := by
  refine ⟨⟨(hf _ (tg (hT.1 0 (by decide)) (hT.2.2.1 o ho).1 (by simp)) (tg (hT.1 0 (by decide)) (hT.2.2.1 o ho).2.1 (by simp)) (tg (hT.1 0 (by decide)) (hT.2.2.1 o ho).2.2 (by simp))).trans hR.1.1, (hf _ (tg (hT.1 1 (by decide)) (hT.2.2.1 o ho).1 (by simp)) (tg (hT.1 1 (by decide)) (hT.2.2.1 o ho).2.1 (by simp)) (tg (hT.1 1 (by decide)) (hT.2.2.1 o ho).2.2 (by simp))).trans hR.1.2.1, (hf _ (tg (hT.1 2 (by decide)) (hT.2.2.1 o ho).1 (by simp)) (tg (hT.1 2 (by decide)) (hT.2.2.1 o ho).2.1 (by simp)) (tg (hT.1 2 (by decide)) (hT.2.2.1 o ho).2.2 (by simp))).trans hR.1.2.2.1, (hf _ (tg (hT.1 3 (by decide)) (hT.2.2.1 o ho).1 (by simp)) (tg (hT.1 3 (by decide)) (hT.2.2.1 o ho).2.1 (by simp)) (tg (hT.1 3 (by decide)) (hT.2.2.1 o ho).2.2 (by simp))).trans hR.1.2.2.2.1, (hf _ (tg (hT.1 4 (by decide)) (hT.2.2.1 o ho).1 (by simp)) (tg (hT.1 4 (by decide)) (hT.2.2.1 o ho).2.1 (by simp)) (tg (hT.1 4 (by decide)) (hT.2.2.1 o ho).2.2 (by simp))).trans hR.1.2.2.2.2⟩, ?_, ?_, ?_⟩
  · intro p9 hp9
    refine ⟨?_, ?_⟩
    · exact cp_fix ((hf _ (tg (hT.2.1 p9 hp9).1 (hT.2.2.1 o ho).1 (by simp)) (tg (hT.2.1 p9 hp9).1 (hT.2.2.1 o ho).2.1 (by simp)) (tg (hT.2.1 p9 hp9).1 (hT.2.2.1 o ho).2.2 (by simp))).trans (hR.2.1 p9 hp9).1) (by simp [cp_pg, cp_or, cp_tx, up3, va_up])
    · exact cp_fix ((hf _ (tg (hT.2.1 p9 hp9).2 (hT.2.2.1 o ho).1 (by simp)) (tg (hT.2.1 p9 hp9).2 (hT.2.2.1 o ho).2.1 (by simp)) (tg (hT.2.1 p9 hp9).2 (hT.2.2.1 o ho).2.2 (by simp))).trans (hR.2.1 p9 hp9).2) (by simp [cp_pg, cp_or, cp_tx, up3, va_up])
  · intro o9 ho9
    by_cases hq : o9 = o
    · subst hq
      refine ⟨?_, ?_, ?_⟩
      · exact cp_fix (g1) (by simp [cp_pg, cp_or, cp_tx, up3, va_up])
      · exact cp_fix (g2) (by simp [cp_pg, cp_or, cp_tx, up3, va_up])
      · exact cp_fix (g3) (by simp [cp_pg, cp_or, cp_tx, up3, va_up])
    · refine ⟨?_, ?_, ?_⟩
      · exact cp_fix ((hf _ (tg (hT.2.2.1 o9 ho9).1 (hT.2.2.1 o ho).1 (by simp [hq])) (tg (hT.2.2.1 o9 ho9).1 (hT.2.2.1 o ho).2.1 (by simp)) (tg (hT.2.2.1 o9 ho9).1 (hT.2.2.1 o ho).2.2 (by simp))).trans (hR.2.2.1 o9 ho9).1) (by simp [cp_pg, cp_or, cp_tx, up3, va_up, hq])
      · exact cp_fix ((hf _ (tg (hT.2.2.1 o9 ho9).2.1 (hT.2.2.1 o ho).1 (by simp)) (tg (hT.2.2.1 o9 ho9).2.1 (hT.2.2.1 o ho).2.1 (by simp [hq])) (tg (hT.2.2.1 o9 ho9).2.1 (hT.2.2.1 o ho).2.2 (by simp))).trans (hR.2.2.1 o9 ho9).2.1) (by simp [cp_pg, cp_or, cp_tx, up3, va_up, hq])
      · exact cp_fix ((hf _ (tg (hT.2.2.1 o9 ho9).2.2 (hT.2.2.1 o ho).1 (by simp)) (tg (hT.2.2.1 o9 ho9).2.2 (hT.2.2.1 o ho).2.1 (by simp)) (tg (hT.2.2.1 o9 ho9).2.2 (hT.2.2.1 o ho).2.2 (by simp [hq]))).trans (hR.2.2.1 o9 ho9).2.2) (by simp [cp_pg, cp_or, cp_tx, up3, va_up, hq])
  · intro t9 ht9
    refine ⟨?_, ?_⟩
    · exact cp_fix ((hf _ (tg (hT.2.2.2 t9 ht9).1 (hT.2.2.1 o ho).1 (by simp)) (tg (hT.2.2.2 t9 ht9).1 (hT.2.2.1 o ho).2.1 (by simp)) (tg (hT.2.2.2 t9 ht9).1 (hT.2.2.1 o ho).2.2 (by simp))).trans (hR.2.2.2 t9 ht9).1) (by simp [cp_pg, cp_or, cp_tx, up3, va_up])
    · exact cp_fix ((hf _ (tg (hT.2.2.2 t9 ht9).2 (hT.2.2.1 o ho).1 (by simp)) (tg (hT.2.2.2 t9 ht9).2 (hT.2.2.1 o ho).2.1 (by simp)) (tg (hT.2.2.2 t9 ht9).2 (hT.2.2.1 o ho).2.2 (by simp))).trans (hR.2.2.2 t9 ht9).2) (by simp [cp_pg, cp_or, cp_tx, up3, va_up])

theorem cp_lst (hR : cp_R k h b n c M) (hT : cp_T h b T n) {f : Nat → Int32} (g1 : M1 (h 4) = some (.inl (k 0, 200, .inl f))) (g2 : M1 (h 0) = some (cp_r h (va_up n 3 (n 3 + 1)))) (hf : ∀ x, x ≠ h 4 → x ≠ h 0 → M1 x = M x) : cp_R k h b (va_up n 3 (n 3 + 1)) (up3 c 9 0 f) M1 := by
  refine ⟨⟨g2, (hf _ (tg (hT.1 1 (by decide)) (hT.1 4 (by decide)) (by simp)) (tg (hT.1 1 (by decide)) (hT.1 0 (by decide)) (by simp))).trans hR.1.2.1, (hf _ (tg (hT.1 2 (by decide)) (hT.1 4 (by decide)) (by simp)) (tg (hT.1 2 (by decide)) (hT.1 0 (by decide)) (by simp))).trans hR.1.2.2.1, (hf _ (tg (hT.1 3 (by decide)) (hT.1 4 (by decide)) (by simp)) (tg (hT.1 3 (by decide)) (hT.1 0 (by decide)) (by simp))).trans hR.1.2.2.2.1, g1⟩, ?_, ?_, ?_⟩
  · intro p9 hp9
    refine ⟨?_, ?_⟩
    · exact cp_fix ((hf _ (tg (hT.2.1 p9 hp9).1 (hT.1 4 (by decide)) (by simp)) (tg (hT.2.1 p9 hp9).1 (hT.1 0 (by decide)) (by simp))).trans (hR.2.1 p9 hp9).1) (by simp [cp_pg, cp_or, cp_tx, up3, va_up])
    · exact cp_fix ((hf _ (tg (hT.2.1 p9 hp9).2 (hT.1 4 (by decide)) (by simp)) (tg (hT.2.1 p9 hp9).2 (hT.1 0 (by decide)) (by simp))).trans (hR.2.1 p9 hp9).2) (by simp [cp_pg, cp_or, cp_tx, up3, va_up])
  · intro o9 ho9
    refine ⟨?_, ?_, ?_⟩
    · exact cp_fix ((hf _ (tg (hT.2.2.1 o9 ho9).1 (hT.1 4 (by decide)) (by simp)) (tg (hT.2.2.1 o9 ho9).1 (hT.1 0 (by decide)) (by simp))).trans (hR.2.2.1 o9 ho9).1) (by simp [cp_pg, cp_or, cp_tx, up3, va_up])
    · exact cp_fix ((hf _ (tg (hT.2.2.1 o9 ho9).2.1 (hT.1 4 (by decide)) (by simp)) (tg (hT.2.2.1 o9 ho9).2.1 (hT.1 0 (by decide)) (by simp))).trans (hR.2.2.1 o9 ho9).2.1) (by simp [cp_pg, cp_or, cp_tx, up3, va_up])
    · exact cp_fix ((hf _ (tg (hT.2.2.1 o9 ho9).2.2 (hT.1 4 (by decide)) (by simp)) (tg (hT.2.2.1 o9 ho9).2.2 (hT.1 0 (by decide)) (by simp))).trans (hR.2.2.1 o9 ho9).2.2) (by simp [cp_pg, cp_or, cp_tx, up3, va_up])
  · intro t9 ht9
    refine ⟨?_, ?_⟩
    · exact cp_fix ((hf _ (tg (hT.2.2.2 t9 ht9).1 (hT.1 4 (by decide)) (by simp)) (tg (hT.2.2.2 t9 ht9).1 (hT.1 0 (by decide)) (by simp))).trans (hR.2.2.2 t9 ht9).1) (by simp [cp_pg, cp_or, cp_tx, up3, va_up])
    · exact cp_fix ((hf _ (tg (hT.2.2.2 t9 ht9).2 (hT.1 4 (by decide)) (by simp)) (tg (hT.2.2.2 t9 ht9).2 (hT.1 0 (by decide)) (by simp))).trans (hR.2.2.2 t9 ht9).2) (by simp [cp_pg, cp_or, cp_tx, up3, va_up])

end CP
