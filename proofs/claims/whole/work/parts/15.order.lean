/-! pure words for the class's own orders and pages -/
theorem wh_nxt {f : Nat → Int32} {a : Nat} {h : Nat → Int32} {n : Nat} {x : Int32} (hx : x = h n) {j : Nat} (hj : j = a + n) : upd (blk f a n h) j x = blk f a (n + 1) h := by
  subst hj
  exact blk_s hx
/-- the key by which codes are sorted -/
def kx (f : Nat → Int32) (c : Nat) : Int32 := if f c = -1 then nI (65536 + c) else f c
def outb (u : Nat → Int32) (d : Nat) : Bool := decide (u d = 0)
/-- those outside, below i, ranked behind nx -/
def rto (u3 u4 : Nat → Int32) (nx : Int32) (i : Nat) : Nat → Int32 := fun j => if j < i ∧ u4 j = 0 then nx + nI (cntb (outb u4) j) else u3 j
theorem rto_0 {u3 u4 : Nat → Int32} {nx : Int32} : rto u3 u4 nx 0 = u3 := by
  funext j
  exact if_neg (by omega)
theorem rto_in {u3 u4 : Nat → Int32} {nx : Int32} {i : Nat} (h : ¬ u4 i = 0) : rto u3 u4 nx (i + 1) = rto u3 u4 nx i := by
  funext j
  unfold rto
  by_cases hj : j = i
  · subst hj
    rw [if_neg (fun q => h q.2), if_neg (fun q => h q.2)]
  · by_cases h1 : j < i ∧ u4 j = 0
    · rw [if_pos h1, if_pos ⟨by omega, h1.2⟩]
    · rw [if_neg h1, if_neg (fun q => h1 ⟨by omega, q.2⟩)]
theorem rto_out {u3 u4 : Nat → Int32} {nx w : Int32} {i : Nat} (h : u4 i = 0) (hw : w = nx + nI (cntb (outb u4) i)) : upd (rto u3 u4 nx i) i w = rto u3 u4 nx (i + 1) := by
  subst hw
  funext j
  by_cases hj : j = i
  · subst hj
    rw [pk_us]
    unfold rto
    rw [if_pos ⟨by omega, h⟩]
  · rw [pk_un hj]
    unfold rto
    by_cases h1 : j < i ∧ u4 j = 0
    · rw [if_pos h1, if_pos ⟨by omega, h1.2⟩]
    · rw [if_neg h1, if_neg (fun q => h1 ⟨by omega, q.2⟩)]
theorem abs_up {a b : Nat} (h : b ≤ a) (ha : a < 2 ^ 30) : (if 0 ≤ nI a - nI b then nI a - nI b else 0 - (nI a - nI b)) = nI (a - b) := by
  rw [pk_sub h, if_pos (nI_pos' (by omega))]
theorem abs_dn {a b : Nat} (h : a ≤ b) (hb : b < 2 ^ 30) : (if 0 ≤ nI a - nI b then nI a - nI b else 0 - (nI a - nI b)) = nI (b - a) := by
  by_cases he : a = b
  · subst he
    exact abs_up (Nat.le_refl _) hb
  · have h1 : nI a - nI b < 0 := pk_sneg hb (by omega)
    rw [if_neg (Int32.not_le.mpr h1), ← pk_sub h]
    apply Int32.toBitVec_inj.mp
    simp
/-- the distance of the i-th code of a range from its start -/
def dst (up : Bool) (f t i : Nat) : Nat := match up with
  | true => i
  | false => f - t - i
def tlo (up : Bool) (f t : Nat) : Nat := match up with
  | true => f
  | false => t
theorem max_up {a b : Nat} (h : a ≤ b) (hb : b < 2 ^ 31) : (if nI a < nI b then nI b else nI a) = nI b := by
  by_cases he : a = b
  · subst he
    split <;> rfl
  · rw [if_pos (nI_lt (by omega) hb)]
theorem tag_no {M : mw} {a b : Nat} (h : M a = none) {e : va_E} (hb : M b = some e) : a ≠ b := fun q => by rw [q, hb] at h; cases h
