/-! sorting by insertion: K the keys; s the codes in their order -/
theorem cntb_ext {b b' : Nat → Bool} : ∀ {c : Nat}, (∀ y, y < c → b y = b' y) → cntb b c = cntb b' c
  | 0, _ => rfl
  | c + 1, h => by
    rw [cntb, cntb, cntb_ext (fun y hy => h y (by omega)), h c (by omega)]
theorem cntb_add {b b' : Nat → Bool} {x : Nat} (hb : b x = false) (hb' : b' x = true) (he : ∀ y, y ≠ x → b' y = b y) : ∀ {c : Nat}, x < c → cntb b' c = cntb b c + 1
  | 0, h => absurd h (Nat.not_lt_zero _)
  | c + 1, h => by
    by_cases hx : x = c
    · subst hx
      rw [cntb, cntb, cntb_ext (b := b') (b' := b) (fun y hy => he y (by omega)), hb, hb']
      simp
    · rw [cntb, cntb, cntb_add hb hb' he (show x < c by omega), he c (by omega)]
      omega
theorem cntb_no {b : Nat → Bool} : ∀ {c : Nat}, (∀ y, y < c → b y = false) → cntb b c = 0
  | 0, _ => rfl
  | c + 1, h => by
    rw [cntb, cntb_no (fun y hy => h y (by omega)), h c (by omega)]
    simp
def ltb (K : Nat → Int) (x y : Nat) : Bool := decide (K y < K x)
def srt (K : Nat → Int) (s : Nat → Nat) (c : Nat) : Prop := (∀ i, i < c → s i < c) ∧ (∀ i j, i < j → j < c → K (s i) < K (s j)) ∧ (∀ x, x < c → ∃ i, i < c ∧ s i = x) ∧ ∀ i, i < c → cntb (ltb K (s i)) c = i
def insn (s : Nat → Nat) (p c : Nat) : Nat → Nat := fun j => if j < p then s j else if j = p then c else s (j - 1)
theorem insn_lo {s : Nat → Nat} {p c j : Nat} (h : j < p) : insn s p c j = s j := if_pos h
theorem insn_at {s : Nat → Nat} {p c : Nat} : insn s p c p = c := by
  unfold insn
  rw [if_neg (by omega), if_pos rfl]
theorem insn_hi {s : Nat → Nat} {p c j : Nat} (h : p ≤ j) : insn s p c (j + 1) = s j := by
  unfold insn
  rw [if_neg (by omega), if_neg (by omega)]
  rfl
theorem srt_0 {K : Nat → Int} {s : Nat → Nat} : srt K s 0 := ⟨fun _ h => absurd h (Nat.not_lt_zero _), fun _ _ _ h => absurd h (Nat.not_lt_zero _), fun _ h => absurd h (Nat.not_lt_zero _), fun _ h => absurd h (Nat.not_lt_zero _)⟩
theorem srt_ins {K : Nat → Int} {s : Nat → Nat} {c p : Nat} (h : srt K s c) (hp : p ≤ c) (hhi : ∀ j, p ≤ j → j < c → K c < K (s j)) (hlo : p = 0 ∨ K (s (p - 1)) < K c) : srt K (insn s p c) (c + 1) := by
  obtain ⟨h1, h2, h3, h4⟩ := h
  have lo : ∀ j, j < p → K (s j) < K c := by
    intro j hj
    rcases hlo with h0 | h0
    · omega
    · by_cases hj1 : j = p - 1
      · rw [hj1]
        exact h0
      · exact Int.lt_trans (h2 j (p - 1) (by omega) (by omega)) h0
  -- how many are below c
  have hc : cntb (ltb K c) c = p := by
    by_cases h0 : p = 0
    · rw [h0]
      refine cntb_no (fun y hy => ?_)
      obtain ⟨i, hi, rfl⟩ := h3 y hy
      have := hhi i (by omega) hi
      exact decide_eq_false (by omega)
    · have hx := h1 (p - 1) (by omega)
      have key : cntb (ltb K c) c = cntb (ltb K (s (p - 1))) c + 1 := by
        have e1 : cntb (ltb K c) c = cntb (fun y => ltb K (s (p - 1)) y || decide (y = s (p - 1))) c := by
          refine cntb_ext (fun y hy => ?_)
          obtain ⟨i, hi, rfl⟩ := h3 y hy
          by_cases hip : i < p
          · have g1 := lo i hip
            by_cases hi1 : i = p - 1
            · rw [hi1]
              rw [hi1] at g1
              simp [ltb, g1]
            · have g2 := h2 i (p - 1) (by omega) (by omega)
              simp [ltb, g1, g2]
          · have g1 := hhi i (by omega) hi
            have g2 := h2 (p - 1) i (by omega) hi
            have g3 : s i ≠ s (p - 1) := fun q => by rw [q] at g2; omega
            have g4 : ¬ K (s i) < K c := by omega
            have g5 : ¬ K (s i) < K (s (p - 1)) := by omega
            simp [ltb, g3, g4, g5]
        rw [e1]
        refine cntb_add (x := s (p - 1)) ?_ ?_ (fun y hy => ?_) hx
        · exact decide_eq_false (by omega)
        · simp
        · simp [hy]
      rw [key, h4 (p - 1) (by omega)]
      omega
  refine ⟨fun i hi => ?_, fun i j hij hj => ?_, fun x hx => ?_, fun i hi => ?_⟩
  · by_cases g1 : i < p
    · rw [insn_lo g1]
      have := h1 i (by omega)
      omega
    · by_cases g2 : i = p
      · subst g2
        rw [insn_at]
        omega
      · obtain ⟨j, rfl⟩ : ∃ j, i = j + 1 := ⟨i - 1, by omega⟩
        rw [insn_hi (by omega)]
        have := h1 j (by omega)
        omega
  · by_cases g1 : i < p
    · rw [insn_lo g1]
      by_cases g2 : j < p
      · rw [insn_lo g2]
        exact h2 i j hij (by omega)
      · by_cases g3 : j = p
        · subst g3
          rw [insn_at]
          exact lo i g1
        · obtain ⟨j', rfl⟩ : ∃ j', j = j' + 1 := ⟨j - 1, by omega⟩
          rw [insn_hi (by omega)]
          exact Int.lt_trans (lo i g1) (hhi j' (by omega) (by omega))
    · by_cases g2 : i = p
      · subst g2
        rw [insn_at]
        obtain ⟨j', rfl⟩ : ∃ j', j = j' + 1 := ⟨j - 1, by omega⟩
        rw [insn_hi (by omega)]
        exact hhi j' (by omega) (by omega)
      · obtain ⟨i', rfl⟩ : ∃ i', i = i' + 1 := ⟨i - 1, by omega⟩
        obtain ⟨j', rfl⟩ : ∃ j', j = j' + 1 := ⟨j - 1, by omega⟩
        rw [insn_hi (by omega), insn_hi (by omega)]
        exact h2 i' j' (by omega) (by omega)
  · by_cases g1 : x = c
    · subst g1
      exact ⟨p, by omega, insn_at⟩
    · obtain ⟨i, hi, rfl⟩ := h3 x (by omega)
      by_cases g2 : i < p
      · exact ⟨i, by omega, insn_lo g2⟩
      · exact ⟨i + 1, by omega, insn_hi (by omega)⟩
  · by_cases g1 : i < p
    · rw [insn_lo g1]
      have g3 := lo i g1
      rw [cntb_f (show ltb K (s i) c = false from decide_eq_false (by omega))]
      exact h4 i (by omega)
    · by_cases g2 : i = p
      · subst g2
        rw [insn_at, cntb_f (show ltb K c c = false from decide_eq_false (by omega))]
        exact hc
      · obtain ⟨i', rfl⟩ : ∃ i', i = i' + 1 := ⟨i - 1, by omega⟩
        rw [insn_hi (by omega)]
        have g3 := hhi i' (by omega) (by omega)
        rw [cntb_t (show ltb K (s i') c = true from decide_eq_true g3), h4 i' (by omega)]
theorem nI_sub1 {p : Nat} (h : 0 < p) : nI p - 1 = nI (p - 1) := by
  obtain ⟨q, rfl⟩ : ∃ q, p = q + 1 := ⟨p - 1, by omega⟩
  exact nI_pred q
def Kx (f : Nat → Int32) (c : Nat) : Int := (kx f c).toInt
theorem lo_of {f : Nat → Int32} (hK : ∀ x y, x < 256 → y < 256 → kx f x = kx f y → x = y) {c x : Nat} (hc : c < 256) (hx : x < 256) (hne : x ≠ c) (h : kx f x ≤ kx f c) : Kx f x < Kx f c := by
  have h1 : (kx f x).toInt ≤ (kx f c).toInt := Int32.le_iff_toInt_le.mp h
  have h2 : (kx f x).toInt ≠ (kx f c).toInt := fun q => hne (hK x c hx hc (Int32.toInt_inj.mp q))
  unfold Kx
  omega
theorem ins_F {F1 : Nat → Int32} {s : Nat → Nat} {p c : Nat} (h1 : ∀ j, j < p → F1 j = nI (s j)) (h2 : ∀ j, p ≤ j → j < c → F1 (j + 1) = nI (s j)) : ∀ i, i < c + 1 → upd F1 p (nI c) i = nI (insn s p c i) := by
  intro i hi
  by_cases g1 : i < p
  · rw [pk_un (by omega), insn_lo g1, h1 i g1]
  · by_cases g2 : i = p
    · subst g2
      rw [pk_us, insn_at]
    · obtain ⟨j, rfl⟩ : ∃ j, i = j + 1 := ⟨i - 1, by omega⟩
      rw [pk_un g2, insn_hi (by omega), h2 j (by omega) (by omega)]
theorem sh_lo {F1 : Nat → Int32} {s : Nat → Nat} {p : Nat} {x : Int32} (h1 : ∀ j, j < p → F1 j = nI (s j)) (hp : 0 < p) : ∀ j, j < p - 1 → upd F1 p x j = nI (s j) := fun j hj => by rw [pk_un (by omega), h1 j (by omega)]
theorem sh_hi {F1 : Nat → Int32} {s : Nat → Nat} {p c : Nat} (h1 : ∀ j, j < p → F1 j = nI (s j)) (h2 : ∀ j, p ≤ j → j < c → F1 (j + 1) = nI (s j)) (hp : 0 < p) : ∀ j, p - 1 ≤ j → j < c → upd F1 p (F1 (p - 1)) (j + 1) = nI (s j) := fun j hj hc => by
  by_cases g : j = p - 1
  · subst g
    rw [show p - 1 + 1 = p by omega, pk_us, h1 (p - 1) (by omega)]
  · rw [pk_un (by omega), h2 j (by omega) hc]
theorem sh_k {f : Nat → Int32} {s : Nat → Nat} {p c : Nat} (h : ∀ j, p ≤ j → j < c → Kx f c < Kx f (s j)) (hp : 0 < p) (h1 : Kx f c < Kx f (s (p - 1))) : ∀ j, p - 1 ≤ j → j < c → Kx f c < Kx f (s j) := fun j hj hc => by
  by_cases g : j = p - 1
  · subst g
    exact h1
  · exact h j (by omega) hc
theorem rk_step {K : Nat → Int} {s : Nat → Nat} {R3 : Nat → Int32} {kk : Nat} (hs : srt K s 256) (h : ∀ i, i < kk → R3 (s i) = nI i) (hk : kk < 256) : ∀ i, i < kk + 1 → upd R3 (s kk) (nI kk) (s i) = nI i := by
  intro i hi
  by_cases g : i = kk
  · subst g
    exact pk_us
  · have := hs.2.1 i kk (by omega) hk
    rw [pk_un (fun q => by rw [q] at this; omega), h i (by omega)]
theorem rk_end {K : Nat → Int} {s : Nat → Nat} {R3 : Nat → Int32} (hs : srt K s 256) (h : ∀ i, i < 256 → R3 (s i) = nI i) : ∀ x, x < 256 → R3 x = nI (cntb (ltb K x) 256) := by
  intro x hx
  obtain ⟨i, hi, rfl⟩ := hs.2.2.1 x hx
  rw [h i hi, hs.2.2.2 i hi]
