/-! what each call keeps of the law's invariant -/
theorem nxB.up {n : Nat → Nat} {g : Nat → Nat → Int32} {i : Nat} (h : nxB n g (256 * i)) : nxB n g (256 * (i + 1)) := fun o ho h4 => by
  obtain ⟨N, hN, e⟩ := h o ho h4
  exact ⟨N, by omega, e⟩
theorem nxB.same {n n1 : Nat → Nat} {g g1 : Nat → Nat → Int32} {i : Nat} (h : nxB n g (256 * i)) (hn : n1 1 = n 1) (h4 : g1 4 = g 4) (h6 : g1 6 = g 6) : nxB n1 g1 (256 * (i + 1)) := fun o ho k => by
  rw [hn] at ho
  rw [h4] at k
  rw [h6]
  exact h.up o ho k
section LI
variable {n n1 : Nat → Nat} {g g1 : Nat → Nat → Int32} {x y z u r : Int32} {L : Nat → Nat} {X : Nat → Nat → Nat} {i : Nat}
theorem li_page_B (hB : mo_B n) (h : R_page n g x r n1 g1) : mo_B n1 := by
  rcases h with ⟨-, -, rfl, -⟩ | ⟨-, -, -, rfl, -⟩ | ⟨w, -, -, a, -, rfl, -⟩
  · exact hB
  · exact hB
  · exact ⟨by show n 0 + 1 ≤ 12; omega, hB.2⟩
theorem li_page_N (h : R_page n g x r n1 g1) (hN : nxB n g (256 * i)) : nxB n1 g1 (256 * (i + 1)) := by
  rcases h with ⟨-, -, rfl, rfl⟩ | ⟨-, -, -, rfl, rfl⟩ | ⟨w, -, -, -, -, rfl, rfl⟩
  · exact hN.up
  · exact hN.up
  · exact hN.same rfl rfl rfl
theorem li_page_9 (h : R_page n g x r n1 g1) (h9 : ∀ t, n 2 ≤ t → g 9 t = 0) : ∀ t, n1 2 ≤ t → g1 9 t = 0 := by
  rcases h with ⟨-, -, rfl, rfl⟩ | ⟨-, -, -, rfl, rfl⟩ | ⟨w, -, -, -, -, rfl, rfl⟩
  · exact h9
  · exact h9
  · exact h9
theorem li_set_N (h : R_set n g x y u r g1) (hN : nxB n g (256 * i)) : nxB n g1 (256 * (i + 1)) := by
  rcases h with ⟨-, -, rfl⟩ | ⟨-, -, -, rfl⟩ | ⟨p, j, -, -, -, -, -, ⟨-, rfl, -⟩ | ⟨-, -, rfl⟩⟩
  · exact hN.up
  · exact hN.up
  · exact hN.up
  · exact hN.same rfl rfl rfl
theorem li_set_9 (h : R_set n g x y u r g1) (h9 : ∀ t, n 2 ≤ t → g 9 t = 0) : ∀ t, n 2 ≤ t → g1 9 t = 0 := by
  rcases h with ⟨-, -, rfl⟩ | ⟨-, -, -, rfl⟩ | ⟨p, j, -, -, -, -, -, ⟨-, rfl, -⟩ | ⟨-, -, rfl⟩⟩
  · exact h9
  · exact h9
  · exact h9
  · exact h9
theorem li_standIn_N (h : R_standIn n g x y r g1) (hN : nxB n g (256 * i)) : nxB n g1 (256 * (i + 1)) := by
  rcases h with ⟨-, -, rfl⟩ | ⟨-, -, -, rfl⟩ | ⟨p, j, -, -, -, -, -, rfl⟩
  · exact hN.up
  · exact hN.up
  · exact hN.same rfl rfl rfl
theorem li_standIn_9 (h : R_standIn n g x y r g1) (h9 : ∀ t, n 2 ≤ t → g 9 t = 0) : ∀ t, n 2 ≤ t → g1 9 t = 0 := by
  rcases h with ⟨-, -, rfl⟩ | ⟨-, -, -, rfl⟩ | ⟨p, j, -, -, -, -, -, rfl⟩
  · exact h9
  · exact h9
  · exact h9
theorem li_translate_n (h : R_translate n g x y z r n1 g1) {k : Nat} (hk : k ≠ 3) : n1 k = n k := by
  rcases h with ⟨-, -, rfl, -⟩ | ⟨-, -, -, rfl, -⟩ | ⟨j, p, q, d, -, -, -, -, -, -, e⟩
  · rfl
  · rfl
  · exact wh_n e hk
theorem li_translate_g (h : R_translate n g x y z r n1 g1) {k : Nat} (hk : k ≠ 11) : g1 k = g k := by
  rcases h with ⟨-, -, -, rfl⟩ | ⟨-, -, -, -, rfl⟩ | ⟨j, p, q, d, -, -, -, -, -, -, e⟩
  · rfl
  · rfl
  · exact wh_g e hk
theorem li_translate_B (hB : mo_B n) (h : R_translate n g x y z r n1 g1) : mo_B n1 := by
  rcases h with ⟨-, -, rfl, -⟩ | ⟨-, -, -, rfl, -⟩ | ⟨j, p, q, d, -, -, -, -, -, -, e⟩
  · exact hB
  · exact hB
  · exact wh_B e hB
theorem li_translate_N (h : R_translate n g x y z r n1 g1) (hN : nxB n g (256 * i)) : nxB n1 g1 (256 * (i + 1)) := hN.same (li_translate_n h (by decide)) (li_translate_g h (by decide)) (li_translate_g h (by decide))
theorem li_translate_9 (h : R_translate n g x y z r n1 g1) (h9 : ∀ t, n 2 ≤ t → g 9 t = 0) : ∀ t, n1 2 ≤ t → g1 9 t = 0 := fun t ht => by
  rw [li_translate_g h (by decide)]
  exact h9 t (by rw [← li_translate_n h (show (2 : Nat) ≠ 3 by decide)]; exact ht)
theorem li_order_B (hB : mo_B n) (h : R_order n g x r n1 g1) : mo_B n1 := by
  rcases h with ⟨-, -, rfl, -⟩ | ⟨-, -, -, rfl, -⟩ | ⟨w, -, -, a, -, rfl, -⟩
  · exact hB
  · exact hB
  · exact ⟨hB.1, by show n 1 + 1 ≤ 12; omega, hB.2.2⟩
theorem li_order_N (h : R_order n g x r n1 g1) (hN : nxB n g (256 * i)) : nxB n1 g1 (256 * (i + 1)) := by
  rcases h with ⟨-, -, rfl, rfl⟩ | ⟨-, -, -, rfl, rfl⟩ | ⟨w, -, -, -, -, rfl, rfl⟩
  · exact hN.up
  · exact hN.up
  · intro o ho k
    have ho : o < n 1 + 1 := ho
    have k : upd (g 4) (n 1) (nI w) o = nI 2 := k
    show ∃ N, N ≤ _ ∧ upd (g 6) (n 1) 0 o = nI N
    by_cases e : o = n 1
    · subst e
      exact ⟨0, by omega, pk_us⟩
    · rw [pk_un e] at k ⊢
      exact hN.up o (by omega) k
theorem li_order_9 (h : R_order n g x r n1 g1) (h9 : ∀ t, n 2 ≤ t → g 9 t = 0) : ∀ t, n1 2 ≤ t → g1 9 t = 0 := by
  rcases h with ⟨-, -, rfl, rfl⟩ | ⟨-, -, -, rfl, rfl⟩ | ⟨w, -, -, -, -, rfl, rfl⟩
  · exact h9
  · exact h9
  · exact h9
theorem li_also_N (h : R_also n g x y z r g1) (hN : nxB n g (256 * i)) : nxB n g1 (256 * (i + 1)) := by
  rcases h with ⟨-, -, rfl⟩ | ⟨o, a, j, -, -, -, -, -, -, -, ⟨-, -, rfl⟩ | ⟨-, -, rfl⟩⟩
  · exact hN.up
  · exact hN.up
  · exact hN.same rfl rfl rfl
theorem li_also_9 (h : R_also n g x y z r g1) (h9 : ∀ t, n 2 ≤ t → g 9 t = 0) : ∀ t, n 2 ≤ t → g1 9 t = 0 := by
  rcases h with ⟨-, -, rfl⟩ | ⟨o, a, j, -, -, -, -, -, -, -, ⟨-, -, rfl⟩ | ⟨-, -, rfl⟩⟩
  · exact h9
  · exact h9
  · exact h9
theorem li_through_N (h : R_through n g x y z r g1) (hN : nxB n g (256 * i)) : nxB n g1 (256 * (i + 1)) := by
  rcases h with ⟨-, -, rfl⟩ | ⟨o, a, j, up, ho, ha, hj, -, -, -, k4, -, ⟨-, -, rfl⟩ | ⟨-, -, rfl⟩⟩
  · exact hN.up
  · exact hN.up
  · intro q hq k
    rw [thg_k (by decide) (by decide)] at k
    rw [thg_6]
    by_cases e : q = o
    · subst e
      obtain ⟨N, hN1, e1⟩ := hN q hq k
      have h2 : tcn up a j ≤ 256 := by
        cases up with
        | true =>
          show j - a + 1 ≤ 256
          omega
        | false =>
          show a - j + 1 ≤ 256
          omega
      exact ⟨N + tcn up a j, by omega, by rw [pk_us, e1, nI_add]⟩
    · rw [pk_un e]
      exact hN.up q hq k
theorem li_through_9 (h : R_through n g x y z r g1) (h9 : ∀ t, n 2 ≤ t → g 9 t = 0) : ∀ t, n 2 ≤ t → g1 9 t = 0 := by
  rcases h with ⟨-, -, rfl⟩ | ⟨o, a, j, up, ho, ha, hj, -, -, -, k4, -, ⟨-, -, rfl⟩ | ⟨-, -, rfl⟩⟩
  · exact h9
  · exact h9
  · intro t ht
    rw [thg_k (by decide) (by decide)]
    exact h9 t ht
theorem li_text_B (hB : mo_B n) (h : R_text n r n1) : mo_B n1 := by
  rcases h with ⟨-, -, rfl⟩ | ⟨a, -, rfl⟩
  · exact hB
  · exact ⟨hB.1, hB.2.1, by show n 2 + 1 ≤ 40; omega, hB.2.2.2⟩
theorem li_text_N (h : R_text n r n1) (hN : nxB n g (256 * i)) : nxB n1 g (256 * (i + 1)) := by
  rcases h with ⟨-, -, rfl⟩ | ⟨a, -, rfl⟩
  · exact hN.up
  · exact hN.same rfl rfl rfl
theorem li_text_9 (h : R_text n r n1) (h9 : ∀ t, n 2 ≤ t → g 9 t = 0) : ∀ t, n1 2 ≤ t → g 9 t = 0 := by
  rcases h with ⟨-, -, rfl⟩ | ⟨a, -, rfl⟩
  · exact h9
  · exact fun t ht => h9 t (by have ht : n 2 + 1 ≤ t := ht; omega)
theorem li_sign_N (h : R_sign n g L x y r g1) (hN : nxB n g (256 * i)) : nxB n g1 (256 * (i + 1)) := by
  rcases h with ⟨-, -, rfl⟩ | ⟨-, -, -, rfl⟩ | ⟨t, j, -, -, -, -, ⟨-, -, rfl⟩ | ⟨-, -, rfl⟩⟩
  · exact hN.up
  · exact hN.up
  · exact hN.up
  · exact hN.same rfl rfl rfl
theorem li_sign_9 (h : R_sign n g L x y r g1) (h9 : ∀ t, n 2 ≤ t → g 9 t = 0) : ∀ t, n 2 ≤ t → g1 9 t = 0 := by
  rcases h with ⟨-, -, rfl⟩ | ⟨-, -, -, rfl⟩ | ⟨t, j, ht, -, -, -, ⟨-, -, rfl⟩ | ⟨-, -, rfl⟩⟩
  · exact h9
  · exact h9
  · exact h9
  · intro q hq
    rw [va_up_self, pk_un (by omega)]
    exact h9 q hq
theorem wh_all {t p q : Nat} : ∀ {k : Nat} {n1 : Nat → Nat} {g1 : Nat → Nat → Int32} {d : Nat}, R_wh n g X t p q k n1 g1 d → (∀ j, j ≠ 3 → n1 j = n j) ∧ (∀ j, j ≠ 8 → j ≠ 11 → g1 j = g j) ∧ (mo_B n → mo_B n1)
  | 0, _, _, _, ⟨a, b, _⟩ => by
    subst a
    subst b
    exact ⟨fun _ _ => rfl, fun _ _ _ => rfl, fun h => h⟩
  | k + 1, _, _, _, ⟨m1, h1, d1, r, m2, h2, d2, hw, ht, e1, e2, e3⟩ => by
    obtain ⟨i1, i2, i3⟩ := wh_all hw
    subst e1
    subst e2
    exact ⟨fun j hj => (wh_n ht hj).trans (i1 j hj), fun j hj hj2 => by rw [va_up_ne _ _ hj, wh_g ht hj2]; exact i2 j hj hj2, fun h => wh_B ht (i3 h)⟩
theorem li_whole_n (h : R_whole n g L X x y z r n1 g1) {k : Nat} (hk : k ≠ 3) : n1 k = n k := by
  rcases h with ⟨-, -, rfl, -⟩ | ⟨t, p, q, d, -, -, -, -, -, -, -, e⟩
  · rfl
  · exact (wh_all e).1 k hk
theorem li_whole_g (h : R_whole n g L X x y z r n1 g1) {k : Nat} (hk : k ≠ 8) (hk2 : k ≠ 11) : g1 k = g k := by
  rcases h with ⟨-, -, -, rfl⟩ | ⟨t, p, q, d, -, -, -, -, -, -, -, e⟩
  · rfl
  · exact (wh_all e).2.1 k hk hk2
theorem li_whole_B (hB : mo_B n) (h : R_whole n g L X x y z r n1 g1) : mo_B n1 := by
  rcases h with ⟨-, -, rfl, -⟩ | ⟨t, p, q, d, -, -, -, -, -, -, -, e⟩
  · exact hB
  · exact (wh_all e).2.2 hB
theorem li_whole_N (h : R_whole n g L X x y z r n1 g1) (hN : nxB n g (256 * i)) : nxB n1 g1 (256 * (i + 1)) := hN.same (li_whole_n h (by decide)) (li_whole_g h (by decide) (by decide)) (li_whole_g h (by decide) (by decide))
theorem li_whole_9 (h : R_whole n g L X x y z r n1 g1) (h9 : ∀ t, n 2 ≤ t → g 9 t = 0) : ∀ t, n1 2 ≤ t → g1 9 t = 0 := fun t ht => by
  rw [li_whole_g h (by decide) (by decide)]
  exact h9 t (by rw [← li_whole_n h (show (2 : Nat) ≠ 3 by decide)]; exact ht)
end LI
/-- the law's invariant behind i calls -/
def LI (k : Nat → ClassId) (h : Nat → Nat) (i : Nat) (b : Nat → Nat → Nat) (T : Nat → Nat × Nat) (n : Nat → Nat) (c : Nat → Nat → Nat → Int32) (g : Nat → Nat → Int32) (L : Nat → Nat) (X : Nat → Nat → Nat) (v : Nat → Int32) (M : mw) : Prop :=
  cp_R k h b n c M ∧ cp_T h b T n ∧ mo_B n ∧ sm n c g L X ∧ mo_V v n ∧ nxB n g (256 * i) ∧ ∀ t, n 2 ≤ t → g 9 t = 0
/-- the law's row of one long -/
def lw_o (k : Nat → ClassId) (o : Nat) (f : Nat → Int64) : mw := fun x => if x = o then some (.inl (k 5, 1, .inr (.inl f))) else none
theorem lw_o_s {k : Nat → ClassId} {o : Nat} {f : Nat → Int64} : lw_o k o f o = some (.inl (k 5, 1, .inr (.inl f))) := if_pos rfl
theorem lw_o_sub {k : Nat → ClassId} {o : Nat} {f : Nat → Int64} {x : Nat} {e : va_E} (h : lw_o k o f x = some e) : x = o ∧ e = .inl (k 5, 1, .inr (.inl f)) := by
  unfold lw_o at h
  by_cases hx : x = o
  · rw [if_pos hx] at h
    cases h
    exact ⟨hx, rfl⟩
  · rw [if_neg hx] at h
    cases h
theorem len_4 {L i : Nat} (hL : L ≤ 2048) (hi : 4 * i ≤ 4096) (h : ¬ nI L - nI 4 < nI (4 * i)) : 4 * i + 4 ≤ L := by
  rw [Int32.lt_iff_toInt_lt, pk_sub_toInt (by omega) (by omega), nI_toInt (by omega)] at h
  omega
