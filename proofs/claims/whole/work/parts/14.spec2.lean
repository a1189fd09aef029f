/-! more of what the reference does: ranks, orders, comparing, classes, printing -/
/-- how many below c -/
def cntb (b : Nat → Bool) : Nat → Nat
  | 0 => 0
  | c + 1 => cntb b c + (if b c = true then 1 else 0)
theorem cntb_t {b : Nat → Bool} {c : Nat} (h : b c = true) : cntb b (c + 1) = cntb b c + 1 := by rw [cntb, if_pos h]
theorem cntb_f {b : Nat → Bool} {c : Nat} (h : b c = false) : cntb b (c + 1) = cntb b c := by rw [cntb, if_neg (by rw [h]; decide)]; rfl
theorem cntb_le (b : Nat → Bool) (c : Nat) : cntb b c ≤ c := by
  induction c with
  | zero => exact Nat.le_refl _
  | succ c ih =>
    rw [cntb]
    split <;> omega
def nob (g : Nat → Nat → Int32) (o d : Nat) : Bool := decide (g 5 (256 * o + d) = -1)
/-- the rank of a code -/
def rko (g : Nat → Nat → Int32) (o c : Nat) : Int32 := if g 4 o = nI 2 ∧ g 5 (256 * o + c) = -1 then g 6 o + nI (cntb (nob g o) c) else g 5 (256 * o + c)
/-- code d comes ahead of code c, by what page 0 means -/
def ahd (g : Nat → Nat → Int32) (c d : Nat) : Bool := decide (if g 1 d = -1 then g 1 c = -1 ∧ d < c else g 1 c = -1 ∨ g 1 d < g 1 c)
def mnt (n : Nat → Nat) (g : Nat → Nat → Int32) (c : Nat) : Nat := if n 0 = 0 then c else cntb (ahd g c) 256
def fo (n : Nat → Nat) (g : Nat → Nat → Int32) (z c : Nat) : Int32 := if z = 2 then -1 else if z = 0 then nI c else nI (mnt n g c)
def R_order (n : Nat → Nat) (g : Nat → Nat → Int32) (x r : Int32) (n' : Nat → Nat) (g' : Nat → Nat → Int32) : Prop :=
  (¬ vp_in x 3 ∧ r = -4 ∧ n' = n ∧ g' = g) ∨ (vp_in x 3 ∧ n 1 = 12 ∧ r = -1 ∧ n' = n ∧ g' = g) ∨
  ∃ z : Nat, z < 3 ∧ x = nI z ∧ n 1 < 12 ∧ r = nI (n 1) ∧ n' = va_up n 1 (n 1 + 1) ∧ g' = va_up (va_up (va_up g 4 (upd (g 4) (n 1) (nI z))) 6 (upd (g 6) (n 1) 0)) 5 (blk (g 5) (256 * n 1) 256 (fo n g z))
def R_ref (n : Nat → Nat) (g : Nat → Nat → Int32) (x y z r : Int32) : Prop :=
  (¬ vp_in x (n 1) ∧ r = -2) ∨ (vp_in x (n 1) ∧ ¬ (vp_in y 256 ∧ vp_in z 256) ∧ r = -4) ∨ (∃ o i j : Nat, o < n 1 ∧ i < 256 ∧ j < 256 ∧ x = nI o ∧ y = nI i ∧ z = nI j ∧ g 4 o ≠ nI 2 ∧ r = -5) ∨
  ∃ o i j : Nat, o < n 1 ∧ i < 256 ∧ j < 256 ∧ x = nI o ∧ y = nI i ∧ z = nI j ∧ g 4 o = nI 2 ∧ r = 0
def R_also (n : Nat → Nat) (g : Nat → Nat → Int32) (x y z r : Int32) (g' : Nat → Nat → Int32) : Prop :=
  (R_ref n g x y z r ∧ r ≠ 0 ∧ g' = g) ∨ ∃ o i j : Nat, o < n 1 ∧ i < 256 ∧ j < 256 ∧ x = nI o ∧ y = nI i ∧ z = nI j ∧ g 4 o = nI 2 ∧
    (((g 5 (256 * o + i) = -1 ∨ g 5 (256 * o + j) ≠ -1) ∧ r = 0 ∧ g' = g) ∨ ((g 5 (256 * o + i) ≠ -1 ∧ g 5 (256 * o + j) = -1) ∧ r = 1 ∧ g' = va_up g 5 (upd (g 5) (256 * o + j) (g 5 (256 * o + i)))))
/-- the k-th code of a range -/
def tix (up : Bool) (f k : Nat) : Nat := match up with
  | true => f + k
  | false => f - k
def tcn (up : Bool) (f t : Nat) : Nat := match up with
  | true => t - f + 1
  | false => f - t + 1
def thg (g : Nat → Nat → Int32) (o : Nat) (up : Bool) (f : Nat) : Nat → Nat → Nat → Int32
  | 0 => g
  | k + 1 => va_up (va_up (thg g o up f k) 5 (upd (thg g o up f k 5) (256 * o + tix up f k) (thg g o up f k 6 o))) 6 (upd (thg g o up f k 6) o (thg g o up f k 6 o + 1))
def R_through (n : Nat → Nat) (g : Nat → Nat → Int32) (x y z r : Int32) (g' : Nat → Nat → Int32) : Prop :=
  (R_ref n g x y z r ∧ r ≠ 0 ∧ g' = g) ∨ ∃ (o i j : Nat) (up : Bool), o < n 1 ∧ i < 256 ∧ j < 256 ∧ x = nI o ∧ y = nI i ∧ z = nI j ∧ g 4 o = nI 2 ∧ (up = true ↔ i ≤ j) ∧
    (((∃ k, k < tcn up i j ∧ g 5 (256 * o + tix up i k) ≠ -1) ∧ r = 0 ∧ g' = g) ∨ ((∀ k, k < tcn up i j → g 5 (256 * o + tix up i k) = -1) ∧ r = nI (tcn up i j) ∧ g' = thg g o up i (tcn up i j)))
def R_rank (n : Nat → Nat) (g : Nat → Nat → Int32) (x y r : Int32) : Prop :=
  (¬ vp_in x (n 1) ∧ r = -2) ∨ (vp_in x (n 1) ∧ ¬ vp_in y 256 ∧ r = -4) ∨ ∃ o j : Nat, o < n 1 ∧ j < 256 ∧ x = nI o ∧ y = nI j ∧ r = rko g o j
/-- the last one of the greatest, among 0 .. c -/
def hgh (f : Nat → Int32) : Nat → Nat
  | 0 => 0
  | c + 1 => if f (c + 1) < f (hgh f c) then hgh f c else c + 1
theorem hgh_le (f : Nat → Int32) (c : Nat) : hgh f c ≤ c := by
  induction c with
  | zero => exact Nat.le_refl _
  | succ c ih =>
    rw [hgh]
    split <;> omega
def R_high (n : Nat → Nat) (g : Nat → Nat → Int32) (x r : Int32) : Prop := (¬ vp_in x (n 1) ∧ r = -2) ∨ ∃ o : Nat, o < n 1 ∧ x = nI o ∧ r = nI (hgh (rko g o) 255)
def cmpf (f h : Nat → Int32) (k : Nat) : Nat → Int32
  | 0 => 0
  | m + 1 => if f k = h k then cmpf f h (k + 1) m else if f k < h k then -1 else 1
theorem cmpf_step {f h : Nat → Int32} {k n : Nat} (hk : k < n) : cmpf f h k (n - k) = if f k = h k then cmpf f h (k + 1) (n - (k + 1)) else if f k < h k then -1 else 1 := by
  obtain ⟨m, hm⟩ : ∃ m, n - k = m + 1 := ⟨n - k - 1, by omega⟩
  rw [hm, show n - (k + 1) = m by omega, cmpf]
theorem cmpf_end {f h : Nat → Int32} {k n : Nat} (hk : n ≤ k) : cmpf f h k (n - k) = 0 := by
  rw [show n - k = 0 by omega, cmpf]
def R_compare (n : Nat → Nat) (g : Nat → Nat → Int32) (L : Nat → Nat) (T : Nat → Nat → Nat) (x y z r : Int32) : Prop :=
  (¬ (vp_in x (n 1) ∧ vp_in y (n 2) ∧ vp_in z (n 2)) ∧ r = -2) ∨ ∃ o a b : Nat, o < n 1 ∧ a < n 2 ∧ b < n 2 ∧ x = nI o ∧ y = nI a ∧ z = nI b ∧ r = cmpf (fun k => rko g o (rdn L T a k)) (fun k => rko g o (rdn L T b k)) 0 40
/-- the first k codes of text t translated from page p to page q; d of them were listed -/
def R_wh (n : Nat → Nat) (g : Nat → Nat → Int32) (T : Nat → Nat → Nat) (t p q : Nat) : Nat → (Nat → Nat) → (Nat → Nat → Int32) → Nat → Prop
  | 0, n', g', d => n' = n ∧ g' = g ∧ d = 0
  | k + 1, n', g', d => ∃ n1 g1 d1 r n2 g2 d2, R_wh n g T t p q k n1 g1 d1 ∧ R_tr n1 g1 (T t k) p q r n2 g2 d2 ∧ n' = n2 ∧ g' = va_up g2 8 (upd (g2 8) (40 * t + k) r) ∧ d = d1 + d2
def R_whole (n : Nat → Nat) (g : Nat → Nat → Int32) (L : Nat → Nat) (T : Nat → Nat → Nat) (x y z r : Int32) (n' : Nat → Nat) (g' : Nat → Nat → Int32) : Prop :=
  (¬ (vp_in x (n 2) ∧ vp_in y (n 0) ∧ vp_in z (n 0)) ∧ r = -2 ∧ n' = n ∧ g' = g) ∨ ∃ t p q d : Nat, t < n 2 ∧ p < n 0 ∧ q < n 0 ∧ x = nI t ∧ y = nI p ∧ z = nI q ∧ r = nI d ∧ R_wh n g T t p q (L t) n' g' d
def clsf (x : Int32) (z : Nat) : Int32 := match z with
  | 0 => bz (¬ x < nI 48 ∧ ¬ nI 57 < x)
  | 1 => bz ((¬ x < nI 65 ∧ ¬ nI 90 < x) ∨ (¬ x < nI 97 ∧ ¬ nI 122 < x))
  | 2 => bz (¬ x < nI 65 ∧ ¬ nI 90 < x)
  | 3 => bz (¬ x < nI 97 ∧ ¬ nI 122 < x)
  | 4 => bz (x = nI 32)
  | _ => bz ((¬ x < 0 ∧ x < nI 32) ∨ x = nI 127)
def R_cls (x y r : Int32) : Prop := (¬ vp_in y 6 ∧ r = 0) ∨ ∃ z : Nat, z < 6 ∧ y = nI z ∧ r = clsf x z
def R_print (x y r : Int32) : Prop := (¬ vp_in x 256 ∧ r = 0) ∨ ∃ j : Nat, j < 256 ∧ x = nI j ∧ ((¬ vp_in y 3 ∧ r = 0) ∨ (y = nI 0 ∧ r = nI (hexn (j / 16))) ∨ (y = nI 1 ∧ r = nI (hexn (j % 16))) ∨ (y = nI 2 ∧ r = nI (sgnn (j % 16))))
theorem hexn_lt {q : Nat} (h : q < 16) : hexn q < 128 := by
  unfold hexn
  split <;> omega
theorem sgnn_lt (q : Nat) : sgnn q < 128 := by
  unfold sgnn
  split
  · omega
  · split <;> omega
theorem nI_dn {a b : Nat} (h : b ≤ a) : nI a + nI b * (-1) = nI (a - b) := by
  rw [← pk_sub h, Int32.mul_neg, Int32.mul_one, Int32.sub_eq_add_neg]
theorem i_cancel (a b : Int32) : a + b - a = b := by
  rw [Int32.add_comm]
  exact Int32.add_sub_cancel b a
theorem wh_B {n n2 : Nat → Nat} {g g2 : Nat → Nat → Int32} {j p q d : Nat} {r : Int32} (h : R_tr n g j p q r n2 g2 d) (hB : mo_B n) : mo_B n2 := by
  rcases h with ⟨-, -, rfl, -, -⟩ | ⟨-, -, -, ⟨h3, rfl, -⟩ | ⟨-, rfl, -⟩⟩
  · exact hB
  · exact ⟨hB.1, hB.2.1, hB.2.2.1, by show n 3 + 1 ≤ 200; omega⟩
  · exact hB
theorem wh_g {n n2 : Nat → Nat} {g g2 : Nat → Nat → Int32} {j p q d : Nat} {r : Int32} (h : R_tr n g j p q r n2 g2 d) {k : Nat} (hk : k ≠ 11) : g2 k = g k := by
  rcases h with ⟨-, -, -, rfl, -⟩ | ⟨-, -, -, ⟨-, -, rfl⟩ | ⟨-, -, rfl⟩⟩
  · rfl
  · exact va_up_ne _ _ hk
  · rfl
theorem wh_n {n n2 : Nat → Nat} {g g2 : Nat → Nat → Int32} {j p q d : Nat} {r : Int32} (h : R_tr n g j p q r n2 g2 d) {k : Nat} (hk : k ≠ 3) : n2 k = n k := by
  rcases h with ⟨-, -, rfl, -, -⟩ | ⟨-, -, -, ⟨-, rfl, -⟩ | ⟨-, rfl, -⟩⟩
  · rfl
  · exact va_up_ne _ _ hk
  · rfl
/-- what the walk over a text keeps -/
def wh_K (n : Nat → Nat) (g : Nat → Nat → Int32) (t kk : Nat) (n1 : Nat → Nat) (g1 : Nat → Nat → Int32) : Prop := n1 0 = n 0 ∧ (∀ i, g1 9 i = g 9 i) ∧ ∀ i, kk ≤ i → g1 8 (40 * t + i) = g 8 (40 * t + i)
theorem wh_k {n n1 n2 : Nat → Nat} {g g1 g2 : Nat → Nat → Int32} {t kk j p q d : Nat} {r : Int32} (hK : wh_K n g t kk n1 g1) (h : R_tr n1 g1 j p q r n2 g2 d) (x : Int32) : wh_K n g t (kk + 1) n2 (va_up g2 8 (upd (g2 8) (40 * t + kk) x)) := by
  refine ⟨(wh_n h (by decide)).trans hK.1, fun i => ?_, fun i hi => ?_⟩
  · rw [va_up_ne _ _ (by decide), wh_g h (by decide)]
    exact hK.2.1 i
  · rw [va_up_self, pk_un (by omega), wh_g h (by decide)]
    exact hK.2.2 i (by omega)
