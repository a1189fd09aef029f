/-! numbers and small functions -/
theorem sw_out {x : Int32} {n : Nat} (hn : n < 2 ^ 31) (h : ¬ vp_in x n) : x.toInt < 0 ∨ (n : Int) - 1 < x.toInt := by
  rw [vp_in_iff] at h
  omega
theorem sw_cases (x : Int32) (n : Nat) (hn : n < 2 ^ 31) : ¬ vp_in x n ∨ ∃ j : Nat, j < n ∧ x = nI j := by
  by_cases h : vp_in x n
  · exact Or.inr (vp_in_of h hn)
  · exact Or.inl h
theorem in_nI {j n : Nat} (hn : n < 2 ^ 31) (hj : j < 2 ^ 31) : vp_in (nI j) n ↔ j < n := by
  rw [vp_in_iff, nI_toInt hj]
  omega
/-- a truth as a number -/
def bz (P : Prop) [Decidable P] : Int32 := if P then 1 else 0
theorem bz_t {P : Prop} [Decidable P] (h : P) : bz P = 1 := if_pos h
theorem bz_f {P : Prop} [Decidable P] (h : ¬ P) : bz P = 0 := if_neg h
theorem bz_01 (P : Prop) [Decidable P] : bz P = 0 ∨ bz P = 1 := by
  by_cases h : P
  · exact Or.inr (bz_t h)
  · exact Or.inl (bz_f h)
theorem bz_z (P : Prop) [Decidable P] : narrow .boolean (.int (bz P)) = .int (bz P) := by
  rcases bz_01 P with h | h <;> rw [h] <;> rfl
/-- the meanings that may be told -/
def okm (u : Int32) : Prop := u = -1 ∨ vp_in u 65536
theorem okm_iff (u : Int32) : okm u ↔ ¬ u < -1 ∧ ¬ nI 65535 < u := by
  unfold okm
  rw [vp_in_iff, Int32.lt_iff_toInt_lt, Int32.lt_iff_toInt_lt, ← Int32.toInt_inj, nI_toInt (by decide)]
  have : (-1 : Int32).toInt = -1 := by decide
  rw [this]
  omega
/-- a half as it is printed -/
def hexn (q : Nat) : Nat := if q < 10 then 48 + q else 55 + q
def sgnn (q : Nat) : Nat := if q = 11 ∨ q = 13 then 45 else if 9 < q then 43 else 63
theorem byte_ok {n : Nat} (h : n < 128) : (nI n).toInt8.toInt32 = nI n := by
  have : ∀ i : Fin 128, (nI i.val).toInt8.toInt32 = nI i.val := by decide +kernel
  exact this ⟨n, h⟩
theorem byte_nar {n : Nat} (h : n < 128) : narrow .byte (.int (nI n)) = .int (nI n) := by
  have h1 := pk_nb (nI n)
  rwa [byte_ok h] at h1
/-- the first code from i on, n of them, that holds u; the last one below n -/
def ff (f : Nat → Int32) (u : Int32) (i : Nat) : Nat → Int32
  | 0 => -1
  | n + 1 => if f i = u then nI i else ff f u (i + 1) n
def fl (f : Nat → Int32) (u : Int32) : Nat → Int32
  | 0 => -1
  | n + 1 => if f n = u then nI n else fl f u n
theorem ff_step {f : Nat → Int32} {u : Int32} {i n : Nat} (h : i < n) : ff f u i (n - i) = if f i = u then nI i else ff f u (i + 1) (n - (i + 1)) := by
  obtain ⟨m, hm⟩ : ∃ m, n - i = m + 1 := ⟨n - i - 1, by omega⟩
  rw [hm, show n - (i + 1) = m by omega, ff]
theorem ff_end {f : Nat → Int32} {u : Int32} {i n : Nat} (h : n ≤ i) : ff f u i (n - i) = -1 := by
  rw [show n - i = 0 by omega, ff]
/-- what a page's look-up answers -/
def pfind (f : Nat → Int32) (u : Int32) : Int32 := if u = -1 then -1 else ff f u 0 256
abbrev cp_q (cA : ClassId) (len n : Nat) (pa : Nat → Nat) : va_E := .inl (cA, len, .inr (.inr (.inr (.inr (fun p => if p < n then some (pa p) else none)))))
abbrev cp_o (h : Nat → Nat) (w : Nat → Int32) : va_E := .inr (4, [.ref (h 1), .ref (h 2), .ref (h 3), .ref (h 4), .int (w 4), .int (w 5), .int (w 6), .int (w 7)])
