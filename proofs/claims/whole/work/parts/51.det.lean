/-! the relations are functions: one answer, one state behind -/
theorem xr {x : Int32} {a b n : Nat} (h : x = nI a) (h2 : x = nI b) (ha : a < n) (hb : b < n) (hn : n ≤ 2 ^ 31) : a = b := (nI_eq (by omega) (by omega)).mp (h.symm.trans h2)
theorem xin {x : Int32} {a n : Nat} (h : x = nI a) (ha : a < n) (hn : n < 2 ^ 31) : vp_in x n := by
  rw [h]
  exact vp_in_nI ha hn
section DET
variable {n n1 n2 : Nat → Nat} {g g1 g2 : Nat → Nat → Int32} {x y z u r r2 : Int32} {L : Nat → Nat} {X : Nat → Nat → Nat}
theorem det_page (h : R_page n g x r n1 g1) (h2 : R_page n g x r2 n2 g2) : r = r2 ∧ n1 = n2 ∧ g1 = g2 := by
  rcases h with ⟨a, e1, e2, e3⟩ | ⟨a, a2, e1, e2, e3⟩ | ⟨w, hw, ex, a2, e1, e2, e3⟩ <;> rcases h2 with ⟨b, d1, d2, d3⟩ | ⟨b, b2, d1, d2, d3⟩ | ⟨v, hv, ey, b2, d1, d2, d3⟩
  · exact ⟨e1.trans d1.symm, e2.trans d2.symm, e3.trans d3.symm⟩
  · exact absurd b a
  · exact absurd (xin ey hv (by omega)) a
  · exact absurd a b
  · exact ⟨e1.trans d1.symm, e2.trans d2.symm, e3.trans d3.symm⟩
  · omega
  · exact absurd (xin ex hw (by omega)) b
  · omega
  · obtain rfl := xr ex ey hw hv (by omega)
    exact ⟨e1.trans d1.symm, e2.trans d2.symm, e3.trans d3.symm⟩
theorem det_order (h : R_order n g x r n1 g1) (h2 : R_order n g x r2 n2 g2) : r = r2 ∧ n1 = n2 ∧ g1 = g2 := by
  rcases h with ⟨a, e1, e2, e3⟩ | ⟨a, a2, e1, e2, e3⟩ | ⟨w, hw, ex, a2, e1, e2, e3⟩ <;> rcases h2 with ⟨b, d1, d2, d3⟩ | ⟨b, b2, d1, d2, d3⟩ | ⟨v, hv, ey, b2, d1, d2, d3⟩
  · exact ⟨e1.trans d1.symm, e2.trans d2.symm, e3.trans d3.symm⟩
  · exact absurd b a
  · exact absurd (xin ey hv (by omega)) a
  · exact absurd a b
  · exact ⟨e1.trans d1.symm, e2.trans d2.symm, e3.trans d3.symm⟩
  · omega
  · exact absurd (xin ex hw (by omega)) b
  · omega
  · obtain rfl := xr ex ey hw hv (by omega)
    exact ⟨e1.trans d1.symm, e2.trans d2.symm, e3.trans d3.symm⟩
theorem det_set (hB : mo_B n) (h : R_set n g x y u r g1) (h2 : R_set n g x y u r2 g2) : r = r2 ∧ g1 = g2 := by
  have hB0 := hB.1
  rcases h with ⟨a, e1, e2⟩ | ⟨a, a2, e1, e2⟩ | ⟨p, j, hp, hj, ex, ey, ou, e⟩ <;> rcases h2 with ⟨b, d1, d2⟩ | ⟨b, b2, d1, d2⟩ | ⟨p', j', hp', hj', ex', ey', ou', d⟩
  · exact ⟨e1.trans d1.symm, e2.trans d2.symm⟩
  · exact absurd b a
  · exact absurd (xin ex' hp' (by omega)) a
  · exact absurd a b
  · exact ⟨e1.trans d1.symm, e2.trans d2.symm⟩
  · exact (a2.elim (fun q => absurd (xin ey' hj' (by omega)) q) (fun q => absurd ou' q))
  · exact absurd (xin ex hp (by omega)) b
  · exact (b2.elim (fun q => absurd (xin ey hj (by omega)) q) (fun q => absurd ou q))
  · obtain rfl := xr ex ex' hp hp' (by omega)
    obtain rfl := xr ey ey' hj hj' (by omega)
    rcases e with ⟨e1, e2, e3, e4⟩ | ⟨e1, e3, e2⟩ <;> rcases d with ⟨d1, d2, d3, d4⟩ | ⟨d1, d3, d2⟩
    · exact ⟨e1.trans d1.symm, e2.trans d2.symm⟩
    · exact (d3.elim (fun q => absurd q e3) (fun q => absurd q e4))
    · exact (e3.elim (fun q => absurd q d3) (fun q => absurd q d4))
    · exact ⟨e1.trans d1.symm, e2.trans d2.symm⟩
theorem det_standIn (hB : mo_B n) (h : R_standIn n g x y r g1) (h2 : R_standIn n g x y r2 g2) : r = r2 ∧ g1 = g2 := by
  have hB0 := hB.1
  rcases h with ⟨a, e1, e2⟩ | ⟨a, a2, e1, e2⟩ | ⟨p, j, hp, hj, ex, ey, e1, e2⟩ <;> rcases h2 with ⟨b, d1, d2⟩ | ⟨b, b2, d1, d2⟩ | ⟨p', j', hp', hj', ex', ey', d1, d2⟩
  · exact ⟨e1.trans d1.symm, e2.trans d2.symm⟩
  · exact absurd b a
  · exact absurd (xin ex' hp' (by omega)) a
  · exact absurd a b
  · exact ⟨e1.trans d1.symm, e2.trans d2.symm⟩
  · exact absurd (xin ey' hj' (by omega)) a2
  · exact absurd (xin ex hp (by omega)) b
  · exact absurd (xin ey hj (by omega)) b2
  · obtain rfl := xr ex ex' hp hp' (by omega)
    obtain rfl := xr ey ey' hj hj' (by omega)
    exact ⟨e1.trans d1.symm, e2.trans d2.symm⟩
theorem det_tr {j p q d d' : Nat} (h : R_tr n g j p q r n1 g1 d) (h2 : R_tr n g j p q r2 n2 g2 d') : r = r2 ∧ n1 = n2 ∧ g1 = g2 ∧ d = d' := by
  rcases h with ⟨a, e1, e2, e3, e4⟩ | ⟨a, e1, e4, e⟩ <;> rcases h2 with ⟨b, d1, d2, d3, d4⟩ | ⟨b, d1, d4, dd⟩
  · exact ⟨e1.trans d1.symm, e2.trans d2.symm, e3.trans d3.symm, e4.trans d4.symm⟩
  · exact absurd b a
  · exact absurd a b
  · rcases e with ⟨f, e2, e3⟩ | ⟨f, e2, e3⟩ <;> rcases dd with ⟨f', d2, d3⟩ | ⟨f', d2, d3⟩
    · exact ⟨e1.trans d1.symm, e2.trans d2.symm, e3.trans d3.symm, e4.trans d4.symm⟩
    · exact absurd f f'
    · exact absurd f' f
    · exact ⟨e1.trans d1.symm, e2.trans d2.symm, e3.trans d3.symm, e4.trans d4.symm⟩
theorem det_translate (hB : mo_B n) (h : R_translate n g x y z r n1 g1) (h2 : R_translate n g x y z r2 n2 g2) : r = r2 ∧ n1 = n2 ∧ g1 = g2 := by
  have hB0 := hB.1
  rcases h with ⟨a, e1, e2, e3⟩ | ⟨a, a2, e1, e2, e3⟩ | ⟨j, p, q, d, hj, hp, hq, ex, ey, ez, e⟩ <;> rcases h2 with ⟨b, d1, d2, d3⟩ | ⟨b, b2, d1, d2, d3⟩ | ⟨j', p', q', d', hj', hp', hq', ex', ey', ez', e'⟩
  · exact ⟨e1.trans d1.symm, e2.trans d2.symm, e3.trans d3.symm⟩
  · exact absurd b a
  · exact absurd ⟨xin ey' hp' (by omega), xin ez' hq' (by omega)⟩ a
  · exact absurd a b
  · exact ⟨e1.trans d1.symm, e2.trans d2.symm, e3.trans d3.symm⟩
  · exact absurd (xin ex' hj' (by omega)) a2
  · exact absurd ⟨xin ey hp (by omega), xin ez hq (by omega)⟩ b
  · exact absurd (xin ex hj (by omega)) b2
  · obtain rfl := xr ex ex' hj hj' (by omega)
    obtain rfl := xr ey ey' hp hp' (by omega)
    obtain rfl := xr ez ez' hq hq' (by omega)
    obtain ⟨f1, f2, f3, -⟩ := det_tr e e'
    exact ⟨f1, f2, f3⟩
theorem det_told (hB : mo_B n) (h : R_told n g x r) (h2 : R_told n g x r2) : r = r2 := by
  have hB0 := hB.2.2.2
  rcases h with ⟨a, e1⟩ | ⟨i, hi, ex, e1⟩ <;> rcases h2 with ⟨b, d1⟩ | ⟨i', hi', ex', d1⟩
  · exact e1.trans d1.symm
  · exact absurd (xin ex' hi' (by omega)) a
  · exact absurd (xin ex hi (by omega)) b
  · obtain rfl := xr ex ex' hi hi' (by omega)
    exact e1.trans d1.symm
theorem det_ref (hB : mo_B n) (h : R_ref n g x y z r) (h2 : R_ref n g x y z r2) : r = r2 := by
  have hB0 := hB.2.1
  rcases h with ⟨a, e1⟩ | ⟨a, a2, e1⟩ | ⟨o, i, j, ho, hi, hj, ex, ey, ez, k, e1⟩ | ⟨o, i, j, ho, hi, hj, ex, ey, ez, k, e1⟩ <;> rcases h2 with ⟨b, d1⟩ | ⟨b, b2, d1⟩ | ⟨o', i', j', ho', hi', hj', ex', ey', ez', k', d1⟩ | ⟨o', i', j', ho', hi', hj', ex', ey', ez', k', d1⟩
  · exact e1.trans d1.symm
  · exact absurd b a
  · exact absurd (xin ex' ho' (by omega)) a
  · exact absurd (xin ex' ho' (by omega)) a
  · exact absurd a b
  · exact e1.trans d1.symm
  · exact absurd ⟨xin ey' hi' (by omega), xin ez' hj' (by omega)⟩ a2
  · exact absurd ⟨xin ey' hi' (by omega), xin ez' hj' (by omega)⟩ a2
  · exact absurd (xin ex ho (by omega)) b
  · exact absurd ⟨xin ey hi (by omega), xin ez hj (by omega)⟩ b2
  · exact e1.trans d1.symm
  · obtain rfl := xr ex ex' ho ho' (by omega)
    exact absurd k' k
  · exact absurd (xin ex ho (by omega)) b
  · exact absurd ⟨xin ey hi (by omega), xin ez hj (by omega)⟩ b2
  · obtain rfl := xr ex ex' ho ho' (by omega)
    exact absurd k k'
  · exact e1.trans d1.symm
theorem ref_0 (hB : mo_B n) {o i j : Nat} (ho : o < n 1) (hi : i < 256) (hj : j < 256) (ex : x = nI o) (ey : y = nI i) (ez : z = nI j) (k : g 4 o = nI 2) (h : R_ref n g x y z r) : r = 0 := det_ref hB h (Or.inr (Or.inr (Or.inr ⟨o, i, j, ho, hi, hj, ex, ey, ez, k, rfl⟩)))
theorem det_also (hB : mo_B n) (h : R_also n g x y z r g1) (h2 : R_also n g x y z r2 g2) : r = r2 ∧ g1 = g2 := by
  have hB0 := hB.2.1
  rcases h with ⟨a, a0, e2⟩ | ⟨o, i, j, ho, hi, hj, ex, ey, ez, k, e⟩ <;> rcases h2 with ⟨b, b0, d2⟩ | ⟨o', i', j', ho', hi', hj', ex', ey', ez', k', d⟩
  · exact ⟨det_ref hB a b, e2.trans d2.symm⟩
  · exact absurd (ref_0 hB ho' hi' hj' ex' ey' ez' k' a) a0
  · exact absurd (ref_0 hB ho hi hj ex ey ez k b) b0
  · obtain rfl := xr ex ex' ho ho' (by omega)
    obtain rfl := xr ey ey' hi hi' (by omega)
    obtain rfl := xr ez ez' hj hj' (by omega)
    rcases e with ⟨c1, e1, e2⟩ | ⟨c1, e1, e2⟩ <;> rcases d with ⟨c2, d1, d2⟩ | ⟨c2, d1, d2⟩
    · exact ⟨e1.trans d1.symm, e2.trans d2.symm⟩
    · exact (c1.elim (fun q => absurd q c2.1) (fun q => absurd c2.2 q))
    · exact (c2.elim (fun q => absurd q c1.1) (fun q => absurd c1.2 q))
    · exact ⟨e1.trans d1.symm, e2.trans d2.symm⟩
theorem det_through (hB : mo_B n) (h : R_through n g x y z r g1) (h2 : R_through n g x y z r2 g2) : r = r2 ∧ g1 = g2 := by
  have hB0 := hB.2.1
  rcases h with ⟨a, a0, e2⟩ | ⟨o, i, j, up, ho, hi, hj, ex, ey, ez, k, hu, e⟩ <;> rcases h2 with ⟨b, b0, d2⟩ | ⟨o', i', j', up', ho', hi', hj', ex', ey', ez', k', hu', d⟩
  · exact ⟨det_ref hB a b, e2.trans d2.symm⟩
  · exact absurd (ref_0 hB ho' hi' hj' ex' ey' ez' k' a) a0
  · exact absurd (ref_0 hB ho hi hj ex ey ez k b) b0
  · obtain rfl := xr ex ex' ho ho' (by omega)
    obtain rfl := xr ey ey' hi hi' (by omega)
    obtain rfl := xr ez ez' hj hj' (by omega)
    obtain rfl : up = up' := Bool.eq_iff_iff.mpr (hu.trans hu'.symm)
    rcases e with ⟨⟨q, hq, c1⟩, e1, e2⟩ | ⟨c1, e1, e2⟩ <;> rcases d with ⟨⟨q', hq', c2⟩, d1, d2⟩ | ⟨c2, d1, d2⟩
    · exact ⟨e1.trans d1.symm, e2.trans d2.symm⟩
    · exact absurd (c2 q hq) c1
    · exact absurd (c1 q' hq') c2
    · exact ⟨e1.trans d1.symm, e2.trans d2.symm⟩
theorem det_text (h : R_text n r n1) (h2 : R_text n r2 n2) : r = r2 ∧ n1 = n2 := by
  rcases h with ⟨a, e1, e2⟩ | ⟨a, e1, e2⟩ <;> rcases h2 with ⟨b, d1, d2⟩ | ⟨b, d1, d2⟩
  · exact ⟨e1.trans d1.symm, e2.trans d2.symm⟩
  · omega
  · omega
  · exact ⟨e1.trans d1.symm, e2.trans d2.symm⟩
theorem det_sign (hB : mo_B n) (h : R_sign n g L x y r g1) (h2 : R_sign n g L x y r2 g2) : r = r2 ∧ g1 = g2 := by
  have hB0 := hB.2.2.1
  rcases h with ⟨a, e1, e2⟩ | ⟨a, a2, e1, e2⟩ | ⟨t, j, ht, hj, ex, ey, e⟩ <;> rcases h2 with ⟨b, d1, d2⟩ | ⟨b, b2, d1, d2⟩ | ⟨t', j', ht', hj', ex', ey', d⟩
  · exact ⟨e1.trans d1.symm, e2.trans d2.symm⟩
  · exact absurd b a
  · exact absurd (xin ex' ht' (by omega)) a
  · exact absurd a b
  · exact ⟨e1.trans d1.symm, e2.trans d2.symm⟩
  · exact absurd (xin ey' hj' (by omega)) a2
  · exact absurd (xin ex ht (by omega)) b
  · exact absurd (xin ey hj (by omega)) b2
  · obtain rfl := xr ex ex' ht ht' (by omega)
    obtain rfl := xr ey ey' hj hj' (by omega)
    rcases e with ⟨c1, e1, e2⟩ | ⟨c1, e1, e2⟩ <;> rcases d with ⟨c2, d1, d2⟩ | ⟨c2, d1, d2⟩
    · exact ⟨e1.trans d1.symm, e2.trans d2.symm⟩
    · omega
    · omega
    · exact ⟨e1.trans d1.symm, e2.trans d2.symm⟩
theorem det_wh {t p q : Nat} : ∀ {k : Nat} {n1 n2 : Nat → Nat} {g1 g2 : Nat → Nat → Int32} {d d' : Nat}, R_wh n g X t p q k n1 g1 d → R_wh n g X t p q k n2 g2 d' → n1 = n2 ∧ g1 = g2 ∧ d = d'
  | 0, _, _, _, _, _, _, ⟨a, b, c⟩, ⟨a', b', c'⟩ => ⟨a.trans a'.symm, b.trans b'.symm, c.trans c'.symm⟩
  | k + 1, _, _, _, _, _, _, ⟨m1, h1, d1, r, m2, h2, d2, hw, ht, e1, e2, e3⟩, ⟨m1', h1', d1', r', m2', h2', d2', hw', ht', e1', e2', e3'⟩ => by
    obtain ⟨rfl, rfl, rfl⟩ := det_wh hw hw'
    obtain ⟨rfl, rfl, rfl, rfl⟩ := det_tr ht ht'
    exact ⟨e1.trans e1'.symm, e2.trans e2'.symm, e3.trans e3'.symm⟩
theorem det_whole (hB : mo_B n) (h : R_whole n g L X x y z r n1 g1) (h2 : R_whole n g L X x y z r2 n2 g2) : r = r2 ∧ n1 = n2 ∧ g1 = g2 := by
  have hB0 := hB.1
  have hB2 := hB.2.2.1
  rcases h with ⟨a, e1, e2, e3⟩ | ⟨t, p, q, d, ht, hp, hq, ex, ey, ez, e1, e⟩ <;> rcases h2 with ⟨b, d1, d2, d3⟩ | ⟨t', p', q', d', ht', hp', hq', ex', ey', ez', d1, e'⟩
  · exact ⟨e1.trans d1.symm, e2.trans d2.symm, e3.trans d3.symm⟩
  · exact absurd ⟨xin ex' ht' (by omega), xin ey' hp' (by omega), xin ez' hq' (by omega)⟩ a
  · exact absurd ⟨xin ex ht (by omega), xin ey hp (by omega), xin ez hq (by omega)⟩ b
  · obtain rfl := xr ex ex' ht ht' (by omega)
    obtain rfl := xr ey ey' hp hp' (by omega)
    obtain rfl := xr ez ez' hq hq' (by omega)
    obtain ⟨rfl, rfl, rfl⟩ := det_wh e e'
    exact ⟨e1.trans d1.symm, rfl, rfl⟩
theorem det_at (hB : mo_B n) (hX : ∀ t, t < n 2 → L t ≤ 40) (h : R_at n g L x y r) (h2 : R_at n g L x y r2) : r = r2 := by
  have hB2 := hB.2.2.1
  rcases h with ⟨a, e1⟩ | ⟨t, ht, ex, e⟩ <;> rcases h2 with ⟨b, d1⟩ | ⟨t', ht', ex', d⟩
  · exact e1.trans d1.symm
  · exact absurd (xin ex' ht' (by omega)) a
  · exact absurd (xin ex ht (by omega)) b
  · obtain rfl := xr ex ex' ht ht' (by omega)
    have := hX t ht
    rcases e with ⟨c1, e1⟩ | ⟨j, hj, ey, e1⟩ <;> rcases d with ⟨c2, d1⟩ | ⟨j', hj', ey', d1⟩
    · exact e1.trans d1.symm
    · exact absurd (xin ey' hj' (by omega)) c1
    · exact absurd (xin ey hj (by omega)) c2
    · obtain rfl := xr ey ey' hj hj' (by omega)
      exact e1.trans d1.symm
theorem det_compare (hB : mo_B n) (h : R_compare n g L X x y z r) (h2 : R_compare n g L X x y z r2) : r = r2 := by
  have hB1 := hB.2.1
  have hB2 := hB.2.2.1
  rcases h with ⟨a, e1⟩ | ⟨o, t, v, ho, ht, hv, ex, ey, ez, e1⟩ <;> rcases h2 with ⟨b, d1⟩ | ⟨o', t', v', ho', ht', hv', ex', ey', ez', d1⟩
  · exact e1.trans d1.symm
  · exact absurd ⟨xin ex' ho' (by omega), xin ey' ht' (by omega), xin ez' hv' (by omega)⟩ a
  · exact absurd ⟨xin ex ho (by omega), xin ey ht (by omega), xin ez hv (by omega)⟩ b
  · obtain rfl := xr ex ex' ho ho' (by omega)
    obtain rfl := xr ey ey' ht ht' (by omega)
    obtain rfl := xr ez ez' hv hv' (by omega)
    exact e1.trans d1.symm
theorem det_cls (h : R_cls x y r) (h2 : R_cls x y r2) : r = r2 := by
  rcases h with ⟨a, e1⟩ | ⟨w, hw, ex, e1⟩ <;> rcases h2 with ⟨b, d1⟩ | ⟨v, hv, ey, d1⟩
  · exact e1.trans d1.symm
  · exact absurd (xin ey hv (by omega)) a
  · exact absurd (xin ex hw (by omega)) b
  · obtain rfl := xr ex ey hw hv (by omega)
    exact e1.trans d1.symm
theorem det_print (h : R_print x y r) (h2 : R_print x y r2) : r = r2 := by
  rcases h with ⟨a, e1⟩ | ⟨j, hj, ex, e⟩ <;> rcases h2 with ⟨b, d1⟩ | ⟨j', hj', ex', d⟩
  · exact e1.trans d1.symm
  · exact absurd (xin ex' hj' (by omega)) a
  · exact absurd (xin ex hj (by omega)) b
  · obtain rfl := xr ex ex' hj hj' (by omega)
    rcases e with ⟨c, e1⟩ | ⟨c, e1⟩ | ⟨c, e1⟩ | ⟨c, e1⟩ <;> rcases d with ⟨c', d1⟩ | ⟨c', d1⟩ | ⟨c', d1⟩ | ⟨c', d1⟩ <;> first
      | exact e1.trans d1.symm
      | exact absurd (xin c' (by decide) (by decide)) c
      | exact absurd (xin c (by decide) (by decide)) c'
      | exact absurd (xr c c' (n := 3) (by decide) (by decide) (by decide)) (by decide)
theorem det_high (hB : mo_B n) (h : R_high n g x r) (h2 : R_high n g x r2) : r = r2 := by
  have hB1 := hB.2.1
  rcases h with ⟨a, e1⟩ | ⟨o, ho, ex, e1⟩ <;> rcases h2 with ⟨b, d1⟩ | ⟨o', ho', ex', d1⟩
  · exact e1.trans d1.symm
  · exact absurd (xin ex' ho' (by omega)) a
  · exact absurd (xin ex ho (by omega)) b
  · obtain rfl := xr ex ex' ho ho' (by omega)
    exact e1.trans d1.symm
theorem det_rank (hB : mo_B n) (h : R_rank n g x y r) (h2 : R_rank n g x y r2) : r = r2 := by
  have hB1 := hB.2.1
  rcases h with ⟨a, e1⟩ | ⟨a, a2, e1⟩ | ⟨o, j, ho, hj, ex, ey, e1⟩ <;> rcases h2 with ⟨b, d1⟩ | ⟨b, b2, d1⟩ | ⟨o', j', ho', hj', ex', ey', d1⟩
  · exact e1.trans d1.symm
  · exact absurd b a
  · exact absurd (xin ex' ho' (by omega)) a
  · exact absurd a b
  · exact e1.trans d1.symm
  · exact absurd (xin ey' hj' (by omega)) a2
  · exact absurd (xin ex ho (by omega)) b
  · exact absurd (xin ey hj (by omega)) b2
  · obtain rfl := xr ex ex' ho ho' (by omega)
    obtain rfl := xr ey ey' hj hj' (by omega)
    exact e1.trans d1.symm
end DET
