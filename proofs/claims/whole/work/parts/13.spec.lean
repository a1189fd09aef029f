/-! WHAT THE REFERENCE DOES, over its arrays g (by slots) and its counts n (pages, orders, texts, listed) -/
def mo_V (v : Nat → Int32) (n : Nat → Nat) : Prop := v 3 = nI (n 0) ∧ v 7 = nI (n 1) ∧ v 10 = nI (n 2) ∧ v 12 = nI (n 3)
def mo_B (n : Nat → Nat) : Prop := n 0 ≤ 12 ∧ n 1 ≤ 12 ∧ n 2 ≤ 40 ∧ n 3 ≤ 200
/-- the first codes' meanings by a page's kind -/
def fm (z i : Nat) : Int32 := if z = 0 then (if i < 128 then nI i else -1) else if z = 1 then nI ((167 * i + 13) % 256) else -1
/-- n places from a on hold h -/
def blk (f : Nat → Int32) (a n : Nat) (h : Nat → Int32) : Nat → Int32 := fun j => if a ≤ j ∧ j < a + n then h (j - a) else f j
theorem blk_0 {f : Nat → Int32} {a : Nat} {h : Nat → Int32} : blk f a 0 h = f := by
  funext j
  exact if_neg (by omega)
theorem blk_s {f : Nat → Int32} {a n : Nat} {h : Nat → Int32} {x : Int32} (hx : x = h n) : upd (blk f a n h) (a + n) x = blk f a (n + 1) h := by
  subst hx
  funext j
  unfold upd blk
  by_cases h1 : j = a + n
  · subst h1
    rw [if_pos rfl, if_pos (by omega), show a + n - a = n by omega]
  · rw [if_neg h1]
    by_cases h2 : a ≤ j ∧ j < a + n
    · rw [if_pos h2, if_pos (by omega)]
    · rw [if_neg h2, if_neg (by omega)]
theorem blk_in {f : Nat → Int32} {a n j : Nat} {h : Nat → Int32} (hj : j < n) : blk f a n h (a + j) = h j := by
  unfold blk
  rw [if_pos (by omega), show a + j - a = j by omega]
theorem blk_out {f : Nat → Int32} {a n j : Nat} {h : Nat → Int32} (hj : j < a ∨ a + n ≤ j) : blk f a n h j = f j := if_neg (by omega)
theorem blk_up {g : Nat → Nat → Int32} {k : Nat} (f h : Nat → Int32) : va_up (va_up g k f) k h = va_up g k h := by
  funext j
  by_cases hj : j = k
  · subst hj
    rw [va_up_self, va_up_self]
  · rw [va_up_ne _ _ hj, va_up_ne _ _ hj, va_up_ne _ _ hj]
theorem up_id {g : Nat → Nat → Int32} {k : Nat} : va_up g k (g k) = g := by
  funext j
  by_cases hj : j = k
  · subst hj
    rw [va_up_self]
  · rw [va_up_ne _ _ hj]
/-- the code of page p that means u, as the reference looks -/
def mf (g : Nat → Nat → Int32) (p : Nat) (u : Int32) : Int32 := if u = -1 then -1 else fl (fun i => g 1 (256 * p + i)) u 256
def R_page (n : Nat → Nat) (g : Nat → Nat → Int32) (x r : Int32) (n' : Nat → Nat) (g' : Nat → Nat → Int32) : Prop :=
  (¬ vp_in x 3 ∧ r = -4 ∧ n' = n ∧ g' = g) ∨ (vp_in x 3 ∧ n 0 = 12 ∧ r = -1 ∧ n' = n ∧ g' = g) ∨
  ∃ z : Nat, z < 3 ∧ x = nI z ∧ n 0 < 12 ∧ r = nI (n 0) ∧ n' = va_up n 0 (n 0 + 1) ∧ g' = va_up (va_up g 1 (blk (g 1) (256 * n 0) 256 (fm z))) 2 (upd (g 2) (n 0) (nI 63))
def R_set (n : Nat → Nat) (g : Nat → Nat → Int32) (x y u r : Int32) (g' : Nat → Nat → Int32) : Prop :=
  (¬ vp_in x (n 0) ∧ r = -2 ∧ g' = g) ∨ (vp_in x (n 0) ∧ (¬ vp_in y 256 ∨ ¬ okm u) ∧ r = -4 ∧ g' = g) ∨
  ∃ p j : Nat, p < n 0 ∧ j < 256 ∧ x = nI p ∧ y = nI j ∧ okm u ∧ ((r = 0 ∧ g' = g ∧ mf g p u ≠ -1 ∧ mf g p u ≠ nI j) ∨ (r = 1 ∧ (mf g p u = -1 ∨ mf g p u = nI j) ∧ g' = va_up g 1 (upd (g 1) (256 * p + j) u)))
def R_row (n : Nat → Nat) (g : Nat → Nat → Int32) (x y r c : Int32) : Prop :=
  (¬ (vp_in x (n 0) ∧ vp_in y 256) ∧ r = 0 ∧ c = 1) ∨ ∃ p j : Nat, p < n 0 ∧ j < 256 ∧ x = nI p ∧ y = nI j ∧ r = g 1 (256 * p + j) ∧ c = 0
def R_standIn (n : Nat → Nat) (g : Nat → Nat → Int32) (x y r : Int32) (g' : Nat → Nat → Int32) : Prop :=
  (¬ vp_in x (n 0) ∧ r = -2 ∧ g' = g) ∨ (vp_in x (n 0) ∧ ¬ vp_in y 256 ∧ r = -4 ∧ g' = g) ∨
  ∃ p j : Nat, p < n 0 ∧ j < 256 ∧ x = nI p ∧ y = nI j ∧ r = g 2 p ∧ g' = va_up g 2 (upd (g 2) p (nI j))
/-- one code j translated from page p to page q; d: how many it adds to those that were listed -/
def R_tr (n : Nat → Nat) (g : Nat → Nat → Int32) (j p q : Nat) (r : Int32) (n' : Nat → Nat) (g' : Nat → Nat → Int32) (d : Nat) : Prop :=
  (mf g q (g 1 (256 * p + j)) ≠ -1 ∧ r = mf g q (g 1 (256 * p + j)) ∧ n' = n ∧ g' = g ∧ d = 0) ∨
  (mf g q (g 1 (256 * p + j)) = -1 ∧ r = g 2 q ∧ d = 1 ∧ ((n 3 < 200 ∧ n' = va_up n 3 (n 3 + 1) ∧ g' = va_up g 11 (upd (g 11) (n 3) (nI j))) ∨ (¬ n 3 < 200 ∧ n' = n ∧ g' = g)))
def R_translate (n : Nat → Nat) (g : Nat → Nat → Int32) (x y z r : Int32) (n' : Nat → Nat) (g' : Nat → Nat → Int32) : Prop :=
  (¬ (vp_in y (n 0) ∧ vp_in z (n 0)) ∧ r = -2 ∧ n' = n ∧ g' = g) ∨ ((vp_in y (n 0) ∧ vp_in z (n 0)) ∧ ¬ vp_in x 256 ∧ r = -4 ∧ n' = n ∧ g' = g) ∨
  ∃ j p q d : Nat, j < 256 ∧ p < n 0 ∧ q < n 0 ∧ x = nI j ∧ y = nI p ∧ z = nI q ∧ R_tr n g j p q r n' g' d
def R_told (n : Nat → Nat) (g : Nat → Nat → Int32) (x r : Int32) : Prop := (¬ vp_in x (n 3) ∧ r = -1) ∨ ∃ i : Nat, i < n 3 ∧ x = nI i ∧ r = g 11 i
theorem rw_in1 {x : Int32} {n : Nat} (hn : n + 1 < 2 ^ 31) : vp_in x (n + 1) ↔ ¬ x < 0 ∧ ¬ nI n < x := by
  rw [vp_in_iff, Int32.lt_iff_toInt_lt, Int32.lt_iff_toInt_lt, nI_toInt (by omega)]
  have : (0 : Int32).toInt = 0 := by decide
  rw [this]
  omega
/-- the texts: their lengths L, their codes T -/
def mo_X (n : Nat → Nat) (g : Nat → Nat → Int32) (L : Nat → Nat) (T : Nat → Nat → Nat) : Prop := ∀ t, t < n 2 → L t ≤ 40 ∧ g 9 t = nI (L t) ∧ ∀ k, k < L t → T t k < 256 ∧ g 8 (40 * t + k) = nI (T t k)
def R_text (n : Nat → Nat) (r : Int32) (n' : Nat → Nat) : Prop := (n 2 = 40 ∧ r = -1 ∧ n' = n) ∨ (n 2 < 40 ∧ r = nI (n 2) ∧ n' = va_up n 2 (n 2 + 1))
def R_sign (n : Nat → Nat) (g : Nat → Nat → Int32) (L : Nat → Nat) (x y r : Int32) (g' : Nat → Nat → Int32) : Prop :=
  (¬ vp_in x (n 2) ∧ r = -2 ∧ g' = g) ∨ (vp_in x (n 2) ∧ ¬ vp_in y 256 ∧ r = -4 ∧ g' = g) ∨
  ∃ t j : Nat, t < n 2 ∧ j < 256 ∧ x = nI t ∧ y = nI j ∧ ((L t = 40 ∧ r = -1 ∧ g' = g) ∨ (L t < 40 ∧ r = nI (L t + 1) ∧ g' = va_up (va_up g 8 (upd (g 8) (40 * t + L t) (nI j))) 9 (upd (g 9) t (nI (L t + 1)))))
def R_at (n : Nat → Nat) (g : Nat → Nat → Int32) (L : Nat → Nat) (x y r : Int32) : Prop :=
  (¬ vp_in x (n 2) ∧ r = -1) ∨ ∃ t : Nat, t < n 2 ∧ x = nI t ∧ ((¬ vp_in y (L t) ∧ r = -1) ∨ ∃ j : Nat, j < L t ∧ y = nI j ∧ r = g 8 (40 * t + j))
/-- the code at place k of a text, filled with blanks -/
def rdn (L : Nat → Nat) (T : Nat → Nat → Nat) (t k : Nat) : Nat := if k < L t then T t k else 32
theorem rdn_lt {n : Nat → Nat} {g : Nat → Nat → Int32} {L : Nat → Nat} {T : Nat → Nat → Nat} (h : mo_X n g L T) {t : Nat} (ht : t < n 2) (k : Nat) : rdn L T t k < 256 := by
  unfold rdn
  by_cases hk : k < L t
  · rw [if_pos hk]
    exact ((h t ht).2.2 k hk).1
  · rw [if_neg hk]
    omega
