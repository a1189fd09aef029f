theorem cp_addP {k : Nat → ClassId} {h : Nat → Nat} {b : Nat → Nat → Nat} {T : Nat → Nat × Nat} {n : Nat → Nat} {c : Nat → Nat → Nat → Int32} {M M1 : mw} (hR : cp_R k h b n c M) (hT : cp_T h b T n) {a q : Nat} {f : Nat → Int32} {x : Int32} (ha : M a = none) (hq : M q = none) (haq : a ≠ q) (g0 : M1 (h 0) = some (cp_r h (va_up n 0 (n 0 + 1)))) (g1 : M1 (h 1) = some (.inl (k 2, 12, .inr (.inr (.inr (.inr (va_up (fun p => if p < n 0 then some (b 1 p) else none) (n 0) (some a)))))))) (ga : M1 a = some (.inr (2, [.ref q, .int x]))) (gq : M1 q = some (.inl (k 0, 256, .inl f))) (hf : ∀ y, y ≠ h 0 → y ≠ h 1 → y ≠ a → y ≠ q → M1 y = M y) :
    cp_R k h (up2 (up2 b 1 (n 0) a) 2 (n 0) q) (va_up n 0 (n 0 + 1)) (up3 (up3 c 1 (n 0) f) 2 (n 0) (fun _ => x)) M1 ∧ cp_T h (up2 (up2 b 1 (n 0) a) 2 (n 0) q) (va_up (va_up T a (1, n 0)) q (2, n 0)) (va_up n 0 (n 0 + 1)) := by
  have hTo : ∀ y, y ≠ a → y ≠ q → (va_up (va_up T a (1, n 0)) q (2, n 0)) y = T y := fun y h0 h1 => by rw [va_up_ne _ _ h1, va_up_ne _ _ h0]
  refine ⟨⟨⟨g0, cp_fix g1 (by rw [q_add]; rfl), (hf _ (tg (hT.1 2 (by decide)) (hT.1 0 (by decide)) (by simp)) (tg (hT.1 2 (by decide)) (hT.1 1 (by decide)) (by simp)) (Ne.symm (tag_no ha hR.1.2.2.1)) (Ne.symm (tag_no hq hR.1.2.2.1))).trans hR.1.2.2.1, (hf _ (tg (hT.1 3 (by decide)) (hT.1 0 (by decide)) (by simp)) (tg (hT.1 3 (by decide)) (hT.1 1 (by decide)) (by simp)) (Ne.symm (tag_no ha hR.1.2.2.2.1)) (Ne.symm (tag_no hq hR.1.2.2.2.1))).trans hR.1.2.2.2.1, (hf _ (tg (hT.1 4 (by decide)) (hT.1 0 (by decide)) (by simp)) (tg (hT.1 4 (by decide)) (hT.1 1 (by decide)) (by simp)) (Ne.symm (tag_no ha hR.1.2.2.2.2)) (Ne.symm (tag_no hq hR.1.2.2.2.2))).trans hR.1.2.2.2.2⟩, ?_, ?_, ?_⟩, ?_, ?_, ?_, ?_⟩
  · intro v hv
    have hv : v < n 0 + 1 := by simpa [va_up] using hv
    by_cases e : v = n 0
    · subst e
      refine ⟨?_, ?_⟩
      · rw [show (up2 (up2 b 1 (n 0) a) 2 (n 0) q) 1 (n 0) = a by simp [up2, va_up]]
        exact cp_fix ga (by simp [up2, up3, va_up, cp_pg, cp_or, cp_tx])
      · rw [show (up2 (up2 b 1 (n 0) a) 2 (n 0) q) 2 (n 0) = q by simp [up2, va_up]]
        exact cp_fix gq (by simp [up2, up3, va_up, cp_pg, cp_or, cp_tx])
    · have hv2 : v < n 0 := by omega
      refine ⟨?_, ?_⟩
      · rw [show (up2 (up2 b 1 (n 0) a) 2 (n 0) q) 1 v = b 1 v by simp [up2, va_up, e]]
        exact cp_fix ((hf _ (tg (hT.2.1 v hv2).1 (hT.1 0 (by decide)) (by simp)) (tg (hT.2.1 v hv2).1 (hT.1 1 (by decide)) (by simp)) (Ne.symm (tag_no ha (hR.2.1 v hv2).1)) (Ne.symm (tag_no hq (hR.2.1 v hv2).1))).trans (hR.2.1 v hv2).1) (by simp [up2, up3, va_up, cp_pg, cp_or, cp_tx, e])
      · rw [show (up2 (up2 b 1 (n 0) a) 2 (n 0) q) 2 v = b 2 v by simp [up2, va_up, e]]
        exact cp_fix ((hf _ (tg (hT.2.1 v hv2).2 (hT.1 0 (by decide)) (by simp)) (tg (hT.2.1 v hv2).2 (hT.1 1 (by decide)) (by simp)) (Ne.symm (tag_no ha (hR.2.1 v hv2).2)) (Ne.symm (tag_no hq (hR.2.1 v hv2).2))).trans (hR.2.1 v hv2).2) (by simp [up2, up3, va_up, cp_pg, cp_or, cp_tx, e])
  · intro v hv
    have hv : v < n 1 := by simpa [va_up] using hv
    refine ⟨?_, ?_, ?_⟩
    · rw [show (up2 (up2 b 1 (n 0) a) 2 (n 0) q) 3 v = b 3 v by simp [up2, va_up]]
      exact cp_fix ((hf _ (tg (hT.2.2.1 v hv).1 (hT.1 0 (by decide)) (by simp)) (tg (hT.2.2.1 v hv).1 (hT.1 1 (by decide)) (by simp)) (Ne.symm (tag_no ha (hR.2.2.1 v hv).1)) (Ne.symm (tag_no hq (hR.2.2.1 v hv).1))).trans (hR.2.2.1 v hv).1) (by simp [up2, up3, va_up, cp_pg, cp_or, cp_tx])
    · rw [show (up2 (up2 b 1 (n 0) a) 2 (n 0) q) 4 v = b 4 v by simp [up2, va_up]]
      exact cp_fix ((hf _ (tg (hT.2.2.1 v hv).2.1 (hT.1 0 (by decide)) (by simp)) (tg (hT.2.2.1 v hv).2.1 (hT.1 1 (by decide)) (by simp)) (Ne.symm (tag_no ha (hR.2.2.1 v hv).2.1)) (Ne.symm (tag_no hq (hR.2.2.1 v hv).2.1))).trans (hR.2.2.1 v hv).2.1) (by simp [up2, up3, va_up, cp_pg, cp_or, cp_tx])
    · rw [show (up2 (up2 b 1 (n 0) a) 2 (n 0) q) 5 v = b 5 v by simp [up2, va_up]]
      exact cp_fix ((hf _ (tg (hT.2.2.1 v hv).2.2 (hT.1 0 (by decide)) (by simp)) (tg (hT.2.2.1 v hv).2.2 (hT.1 1 (by decide)) (by simp)) (Ne.symm (tag_no ha (hR.2.2.1 v hv).2.2)) (Ne.symm (tag_no hq (hR.2.2.1 v hv).2.2))).trans (hR.2.2.1 v hv).2.2) (by simp [up2, up3, va_up, cp_pg, cp_or, cp_tx])
  · intro v hv
    have hv : v < n 2 := by simpa [va_up] using hv
    refine ⟨?_, ?_⟩
    · rw [show (up2 (up2 b 1 (n 0) a) 2 (n 0) q) 6 v = b 6 v by simp [up2, va_up]]
      exact cp_fix ((hf _ (tg (hT.2.2.2 v hv).1 (hT.1 0 (by decide)) (by simp)) (tg (hT.2.2.2 v hv).1 (hT.1 1 (by decide)) (by simp)) (Ne.symm (tag_no ha (hR.2.2.2 v hv).1)) (Ne.symm (tag_no hq (hR.2.2.2 v hv).1))).trans (hR.2.2.2 v hv).1) (by simp [up2, up3, va_up, cp_pg, cp_or, cp_tx])
    · rw [show (up2 (up2 b 1 (n 0) a) 2 (n 0) q) 7 v = b 7 v by simp [up2, va_up]]
      exact cp_fix ((hf _ (tg (hT.2.2.2 v hv).2 (hT.1 0 (by decide)) (by simp)) (tg (hT.2.2.2 v hv).2 (hT.1 1 (by decide)) (by simp)) (Ne.symm (tag_no ha (hR.2.2.2 v hv).2)) (Ne.symm (tag_no hq (hR.2.2.2 v hv).2))).trans (hR.2.2.2 v hv).2) (by simp [up2, up3, va_up, cp_pg, cp_or, cp_tx])
  · intro j hj
    have hold : ∃ e, M (h j) = some e := by
      rcases (show j = 0 ∨ j = 1 ∨ j = 2 ∨ j = 3 ∨ j = 4 by omega) with rfl | rfl | rfl | rfl | rfl
      · exact ⟨_, hR.1.1⟩
      · exact ⟨_, hR.1.2.1⟩
      · exact ⟨_, hR.1.2.2.1⟩
      · exact ⟨_, hR.1.2.2.2.1⟩
      · exact ⟨_, hR.1.2.2.2.2⟩
    obtain ⟨e, he⟩ := hold
    exact (hTo _ (Ne.symm (tag_no ha he)) (Ne.symm (tag_no hq he))).trans (hT.1 j hj)
  · intro v hv
    have hv : v < n 0 + 1 := by simpa [va_up] using hv
    by_cases e : v = n 0
    · subst e
      refine ⟨?_, ?_⟩
      · rw [show (up2 (up2 b 1 (n 0) a) 2 (n 0) q) 1 (n 0) = a by simp [up2, va_up]]
        simp [va_up, haq]
      · rw [show (up2 (up2 b 1 (n 0) a) 2 (n 0) q) 2 (n 0) = q by simp [up2, va_up]]
        simp [va_up, (Ne.symm haq)]
    · have hv2 : v < n 0 := by omega
      refine ⟨?_, ?_⟩
      · rw [show (up2 (up2 b 1 (n 0) a) 2 (n 0) q) 1 v = b 1 v by simp [up2, va_up, e]]
        exact (hTo _ (Ne.symm (tag_no ha (hR.2.1 v hv2).1)) (Ne.symm (tag_no hq (hR.2.1 v hv2).1))).trans (hT.2.1 v hv2).1
      · rw [show (up2 (up2 b 1 (n 0) a) 2 (n 0) q) 2 v = b 2 v by simp [up2, va_up, e]]
        exact (hTo _ (Ne.symm (tag_no ha (hR.2.1 v hv2).2)) (Ne.symm (tag_no hq (hR.2.1 v hv2).2))).trans (hT.2.1 v hv2).2
  · intro v hv
    have hv : v < n 1 := by simpa [va_up] using hv
    refine ⟨?_, ?_, ?_⟩
    · rw [show (up2 (up2 b 1 (n 0) a) 2 (n 0) q) 3 v = b 3 v by simp [up2, va_up]]
      exact (hTo _ (Ne.symm (tag_no ha (hR.2.2.1 v hv).1)) (Ne.symm (tag_no hq (hR.2.2.1 v hv).1))).trans (hT.2.2.1 v hv).1
    · rw [show (up2 (up2 b 1 (n 0) a) 2 (n 0) q) 4 v = b 4 v by simp [up2, va_up]]
      exact (hTo _ (Ne.symm (tag_no ha (hR.2.2.1 v hv).2.1)) (Ne.symm (tag_no hq (hR.2.2.1 v hv).2.1))).trans (hT.2.2.1 v hv).2.1
    · rw [show (up2 (up2 b 1 (n 0) a) 2 (n 0) q) 5 v = b 5 v by simp [up2, va_up]]
      exact (hTo _ (Ne.symm (tag_no ha (hR.2.2.1 v hv).2.2)) (Ne.symm (tag_no hq (hR.2.2.1 v hv).2.2))).trans (hT.2.2.1 v hv).2.2
  · intro v hv
    have hv : v < n 2 := by simpa [va_up] using hv
    refine ⟨?_, ?_⟩
    · rw [show (up2 (up2 b 1 (n 0) a) 2 (n 0) q) 6 v = b 6 v by simp [up2, va_up]]
      exact (hTo _ (Ne.symm (tag_no ha (hR.2.2.2 v hv).1)) (Ne.symm (tag_no hq (hR.2.2.2 v hv).1))).trans (hT.2.2.2 v hv).1
    · rw [show (up2 (up2 b 1 (n 0) a) 2 (n 0) q) 7 v = b 7 v by simp [up2, va_up]]
      exact (hTo _ (Ne.symm (tag_no ha (hR.2.2.2 v hv).2)) (Ne.symm (tag_no hq (hR.2.2.2 v hv).2))).trans (hT.2.2.2 v hv).2
theorem cp_addO {k : Nat → ClassId} {h : Nat → Nat} {b : Nat → Nat → Nat} {T : Nat → Nat × Nat} {n : Nat → Nat} {c : Nat → Nat → Nat → Int32} {M M1 : mw} (hR : cp_R k h b n c M) (hT : cp_T h b T n) {a q r : Nat} {f f2 : Nat → Int32} {x y : Int32} (ha : M a = none) (hq : M q = none) (hr : M r = none) (haq : a ≠ q) (har : a ≠ r) (hqr : q ≠ r) (g0 : M1 (h 0) = some (cp_r h (va_up n 1 (n 1 + 1)))) (g1 : M1 (h 2) = some (.inl (k 3, 12, .inr (.inr (.inr (.inr (va_up (fun p => if p < n 1 then some (b 3 p) else none) (n 1) (some a)))))))) (ga : M1 a = some (.inr (1, [.int y, .ref q, .ref r, .int x]))) (gq : M1 q = some (.inl (k 0, 256, .inl f))) (gr : M1 r = some (.inl (k 1, 256, .inl f2))) (hf : ∀ y, y ≠ h 0 → y ≠ h 2 → y ≠ a → y ≠ q → y ≠ r → M1 y = M y) :
    cp_R k h (up2 (up2 (up2 b 3 (n 1) a) 4 (n 1) q) 5 (n 1) r) (va_up n 1 (n 1 + 1)) (up3 (up3 (up3 (up3 c 3 (n 1) f) 4 (n 1) f2) 5 (n 1) (fun _ => x)) 6 (n 1) (fun _ => y)) M1 ∧ cp_T h (up2 (up2 (up2 b 3 (n 1) a) 4 (n 1) q) 5 (n 1) r) (va_up (va_up (va_up T a (3, n 1)) q (4, n 1)) r (5, n 1)) (va_up n 1 (n 1 + 1)) := by
  have hTo : ∀ y, y ≠ a → y ≠ q → y ≠ r → (va_up (va_up (va_up T a (3, n 1)) q (4, n 1)) r (5, n 1)) y = T y := fun y h0 h1 h2 => by rw [va_up_ne _ _ h2, va_up_ne _ _ h1, va_up_ne _ _ h0]
  refine ⟨⟨⟨g0, (hf _ (tg (hT.1 1 (by decide)) (hT.1 0 (by decide)) (by simp)) (tg (hT.1 1 (by decide)) (hT.1 2 (by decide)) (by simp)) (Ne.symm (tag_no ha hR.1.2.1)) (Ne.symm (tag_no hq hR.1.2.1)) (Ne.symm (tag_no hr hR.1.2.1))).trans hR.1.2.1, cp_fix g1 (by rw [q_add]; rfl), (hf _ (tg (hT.1 3 (by decide)) (hT.1 0 (by decide)) (by simp)) (tg (hT.1 3 (by decide)) (hT.1 2 (by decide)) (by simp)) (Ne.symm (tag_no ha hR.1.2.2.2.1)) (Ne.symm (tag_no hq hR.1.2.2.2.1)) (Ne.symm (tag_no hr hR.1.2.2.2.1))).trans hR.1.2.2.2.1, (hf _ (tg (hT.1 4 (by decide)) (hT.1 0 (by decide)) (by simp)) (tg (hT.1 4 (by decide)) (hT.1 2 (by decide)) (by simp)) (Ne.symm (tag_no ha hR.1.2.2.2.2)) (Ne.symm (tag_no hq hR.1.2.2.2.2)) (Ne.symm (tag_no hr hR.1.2.2.2.2))).trans hR.1.2.2.2.2⟩, ?_, ?_, ?_⟩, ?_, ?_, ?_, ?_⟩
  · intro v hv
    have hv : v < n 0 := by simpa [va_up] using hv
    refine ⟨?_, ?_⟩
    · rw [show (up2 (up2 (up2 b 3 (n 1) a) 4 (n 1) q) 5 (n 1) r) 1 v = b 1 v by simp [up2, va_up]]
      exact cp_fix ((hf _ (tg (hT.2.1 v hv).1 (hT.1 0 (by decide)) (by simp)) (tg (hT.2.1 v hv).1 (hT.1 2 (by decide)) (by simp)) (Ne.symm (tag_no ha (hR.2.1 v hv).1)) (Ne.symm (tag_no hq (hR.2.1 v hv).1)) (Ne.symm (tag_no hr (hR.2.1 v hv).1))).trans (hR.2.1 v hv).1) (by simp [up2, up3, va_up, cp_pg, cp_or, cp_tx])
    · rw [show (up2 (up2 (up2 b 3 (n 1) a) 4 (n 1) q) 5 (n 1) r) 2 v = b 2 v by simp [up2, va_up]]
      exact cp_fix ((hf _ (tg (hT.2.1 v hv).2 (hT.1 0 (by decide)) (by simp)) (tg (hT.2.1 v hv).2 (hT.1 2 (by decide)) (by simp)) (Ne.symm (tag_no ha (hR.2.1 v hv).2)) (Ne.symm (tag_no hq (hR.2.1 v hv).2)) (Ne.symm (tag_no hr (hR.2.1 v hv).2))).trans (hR.2.1 v hv).2) (by simp [up2, up3, va_up, cp_pg, cp_or, cp_tx])
  · intro v hv
    have hv : v < n 1 + 1 := by simpa [va_up] using hv
    by_cases e : v = n 1
    · subst e
      refine ⟨?_, ?_, ?_⟩
      · rw [show (up2 (up2 (up2 b 3 (n 1) a) 4 (n 1) q) 5 (n 1) r) 3 (n 1) = a by simp [up2, va_up]]
        exact cp_fix ga (by simp [up2, up3, va_up, cp_pg, cp_or, cp_tx])
      · rw [show (up2 (up2 (up2 b 3 (n 1) a) 4 (n 1) q) 5 (n 1) r) 4 (n 1) = q by simp [up2, va_up]]
        exact cp_fix gq (by simp [up2, up3, va_up, cp_pg, cp_or, cp_tx])
      · rw [show (up2 (up2 (up2 b 3 (n 1) a) 4 (n 1) q) 5 (n 1) r) 5 (n 1) = r by simp [up2, va_up]]
        exact cp_fix gr (by simp [up2, up3, va_up, cp_pg, cp_or, cp_tx])
    · have hv2 : v < n 1 := by omega
      refine ⟨?_, ?_, ?_⟩
      · rw [show (up2 (up2 (up2 b 3 (n 1) a) 4 (n 1) q) 5 (n 1) r) 3 v = b 3 v by simp [up2, va_up, e]]
        exact cp_fix ((hf _ (tg (hT.2.2.1 v hv2).1 (hT.1 0 (by decide)) (by simp)) (tg (hT.2.2.1 v hv2).1 (hT.1 2 (by decide)) (by simp)) (Ne.symm (tag_no ha (hR.2.2.1 v hv2).1)) (Ne.symm (tag_no hq (hR.2.2.1 v hv2).1)) (Ne.symm (tag_no hr (hR.2.2.1 v hv2).1))).trans (hR.2.2.1 v hv2).1) (by simp [up2, up3, va_up, cp_pg, cp_or, cp_tx, e])
      · rw [show (up2 (up2 (up2 b 3 (n 1) a) 4 (n 1) q) 5 (n 1) r) 4 v = b 4 v by simp [up2, va_up, e]]
        exact cp_fix ((hf _ (tg (hT.2.2.1 v hv2).2.1 (hT.1 0 (by decide)) (by simp)) (tg (hT.2.2.1 v hv2).2.1 (hT.1 2 (by decide)) (by simp)) (Ne.symm (tag_no ha (hR.2.2.1 v hv2).2.1)) (Ne.symm (tag_no hq (hR.2.2.1 v hv2).2.1)) (Ne.symm (tag_no hr (hR.2.2.1 v hv2).2.1))).trans (hR.2.2.1 v hv2).2.1) (by simp [up2, up3, va_up, cp_pg, cp_or, cp_tx, e])
      · rw [show (up2 (up2 (up2 b 3 (n 1) a) 4 (n 1) q) 5 (n 1) r) 5 v = b 5 v by simp [up2, va_up, e]]
        exact cp_fix ((hf _ (tg (hT.2.2.1 v hv2).2.2 (hT.1 0 (by decide)) (by simp)) (tg (hT.2.2.1 v hv2).2.2 (hT.1 2 (by decide)) (by simp)) (Ne.symm (tag_no ha (hR.2.2.1 v hv2).2.2)) (Ne.symm (tag_no hq (hR.2.2.1 v hv2).2.2)) (Ne.symm (tag_no hr (hR.2.2.1 v hv2).2.2))).trans (hR.2.2.1 v hv2).2.2) (by simp [up2, up3, va_up, cp_pg, cp_or, cp_tx, e])
  · intro v hv
    have hv : v < n 2 := by simpa [va_up] using hv
    refine ⟨?_, ?_⟩
    · rw [show (up2 (up2 (up2 b 3 (n 1) a) 4 (n 1) q) 5 (n 1) r) 6 v = b 6 v by simp [up2, va_up]]
      exact cp_fix ((hf _ (tg (hT.2.2.2 v hv).1 (hT.1 0 (by decide)) (by simp)) (tg (hT.2.2.2 v hv).1 (hT.1 2 (by decide)) (by simp)) (Ne.symm (tag_no ha (hR.2.2.2 v hv).1)) (Ne.symm (tag_no hq (hR.2.2.2 v hv).1)) (Ne.symm (tag_no hr (hR.2.2.2 v hv).1))).trans (hR.2.2.2 v hv).1) (by simp [up2, up3, va_up, cp_pg, cp_or, cp_tx])
    · rw [show (up2 (up2 (up2 b 3 (n 1) a) 4 (n 1) q) 5 (n 1) r) 7 v = b 7 v by simp [up2, va_up]]
      exact cp_fix ((hf _ (tg (hT.2.2.2 v hv).2 (hT.1 0 (by decide)) (by simp)) (tg (hT.2.2.2 v hv).2 (hT.1 2 (by decide)) (by simp)) (Ne.symm (tag_no ha (hR.2.2.2 v hv).2)) (Ne.symm (tag_no hq (hR.2.2.2 v hv).2)) (Ne.symm (tag_no hr (hR.2.2.2 v hv).2))).trans (hR.2.2.2 v hv).2) (by simp [up2, up3, va_up, cp_pg, cp_or, cp_tx])
  · intro j hj
    have hold : ∃ e, M (h j) = some e := by
      rcases (show j = 0 ∨ j = 1 ∨ j = 2 ∨ j = 3 ∨ j = 4 by omega) with rfl | rfl | rfl | rfl | rfl
      · exact ⟨_, hR.1.1⟩
      · exact ⟨_, hR.1.2.1⟩
      · exact ⟨_, hR.1.2.2.1⟩
      · exact ⟨_, hR.1.2.2.2.1⟩
      · exact ⟨_, hR.1.2.2.2.2⟩
    obtain ⟨e, he⟩ := hold
    exact (hTo _ (Ne.symm (tag_no ha he)) (Ne.symm (tag_no hq he)) (Ne.symm (tag_no hr he))).trans (hT.1 j hj)
  · intro v hv
    have hv : v < n 0 := by simpa [va_up] using hv
    refine ⟨?_, ?_⟩
    · rw [show (up2 (up2 (up2 b 3 (n 1) a) 4 (n 1) q) 5 (n 1) r) 1 v = b 1 v by simp [up2, va_up]]
      exact (hTo _ (Ne.symm (tag_no ha (hR.2.1 v hv).1)) (Ne.symm (tag_no hq (hR.2.1 v hv).1)) (Ne.symm (tag_no hr (hR.2.1 v hv).1))).trans (hT.2.1 v hv).1
    · rw [show (up2 (up2 (up2 b 3 (n 1) a) 4 (n 1) q) 5 (n 1) r) 2 v = b 2 v by simp [up2, va_up]]
      exact (hTo _ (Ne.symm (tag_no ha (hR.2.1 v hv).2)) (Ne.symm (tag_no hq (hR.2.1 v hv).2)) (Ne.symm (tag_no hr (hR.2.1 v hv).2))).trans (hT.2.1 v hv).2
  · intro v hv
    have hv : v < n 1 + 1 := by simpa [va_up] using hv
    by_cases e : v = n 1
    · subst e
      refine ⟨?_, ?_, ?_⟩
      · rw [show (up2 (up2 (up2 b 3 (n 1) a) 4 (n 1) q) 5 (n 1) r) 3 (n 1) = a by simp [up2, va_up]]
        simp [va_up, haq, har]
      · rw [show (up2 (up2 (up2 b 3 (n 1) a) 4 (n 1) q) 5 (n 1) r) 4 (n 1) = q by simp [up2, va_up]]
        simp [va_up, (Ne.symm haq), hqr]
      · rw [show (up2 (up2 (up2 b 3 (n 1) a) 4 (n 1) q) 5 (n 1) r) 5 (n 1) = r by simp [up2, va_up]]
        simp [va_up, (Ne.symm har), (Ne.symm hqr)]
    · have hv2 : v < n 1 := by omega
      refine ⟨?_, ?_, ?_⟩
      · rw [show (up2 (up2 (up2 b 3 (n 1) a) 4 (n 1) q) 5 (n 1) r) 3 v = b 3 v by simp [up2, va_up, e]]
        exact (hTo _ (Ne.symm (tag_no ha (hR.2.2.1 v hv2).1)) (Ne.symm (tag_no hq (hR.2.2.1 v hv2).1)) (Ne.symm (tag_no hr (hR.2.2.1 v hv2).1))).trans (hT.2.2.1 v hv2).1
      · rw [show (up2 (up2 (up2 b 3 (n 1) a) 4 (n 1) q) 5 (n 1) r) 4 v = b 4 v by simp [up2, va_up, e]]
        exact (hTo _ (Ne.symm (tag_no ha (hR.2.2.1 v hv2).2.1)) (Ne.symm (tag_no hq (hR.2.2.1 v hv2).2.1)) (Ne.symm (tag_no hr (hR.2.2.1 v hv2).2.1))).trans (hT.2.2.1 v hv2).2.1
      · rw [show (up2 (up2 (up2 b 3 (n 1) a) 4 (n 1) q) 5 (n 1) r) 5 v = b 5 v by simp [up2, va_up, e]]
        exact (hTo _ (Ne.symm (tag_no ha (hR.2.2.1 v hv2).2.2)) (Ne.symm (tag_no hq (hR.2.2.1 v hv2).2.2)) (Ne.symm (tag_no hr (hR.2.2.1 v hv2).2.2))).trans (hT.2.2.1 v hv2).2.2
  · intro v hv
    have hv : v < n 2 := by simpa [va_up] using hv
    refine ⟨?_, ?_⟩
    · rw [show (up2 (up2 (up2 b 3 (n 1) a) 4 (n 1) q) 5 (n 1) r) 6 v = b 6 v by simp [up2, va_up]]
      exact (hTo _ (Ne.symm (tag_no ha (hR.2.2.2 v hv).1)) (Ne.symm (tag_no hq (hR.2.2.2 v hv).1)) (Ne.symm (tag_no hr (hR.2.2.2 v hv).1))).trans (hT.2.2.2 v hv).1
    · rw [show (up2 (up2 (up2 b 3 (n 1) a) 4 (n 1) q) 5 (n 1) r) 7 v = b 7 v by simp [up2, va_up]]
      exact (hTo _ (Ne.symm (tag_no ha (hR.2.2.2 v hv).2)) (Ne.symm (tag_no hq (hR.2.2.2 v hv).2)) (Ne.symm (tag_no hr (hR.2.2.2 v hv).2))).trans (hT.2.2.2 v hv).2
theorem cp_addX {k : Nat → ClassId} {h : Nat → Nat} {b : Nat → Nat → Nat} {T : Nat → Nat × Nat} {n : Nat → Nat} {c : Nat → Nat → Nat → Int32} {M M1 : mw} (hR : cp_R k h b n c M) (hT : cp_T h b T n) {a q : Nat} {f : Nat → Int32} {x : Int32} (ha : M a = none) (hq : M q = none) (haq : a ≠ q) (g0 : M1 (h 0) = some (cp_r h (va_up n 2 (n 2 + 1)))) (g1 : M1 (h 3) = some (.inl (k 4, 40, .inr (.inr (.inr (.inr (va_up (fun p => if p < n 2 then some (b 6 p) else none) (n 2) (some a)))))))) (ga : M1 a = some (.inr (3, [.ref q, .int x]))) (gq : M1 q = some (.inl (k 0, 40, .inl f))) (hf : ∀ y, y ≠ h 0 → y ≠ h 3 → y ≠ a → y ≠ q → M1 y = M y) :
    cp_R k h (up2 (up2 b 6 (n 2) a) 7 (n 2) q) (va_up n 2 (n 2 + 1)) (up3 (up3 c 7 (n 2) f) 8 (n 2) (fun _ => x)) M1 ∧ cp_T h (up2 (up2 b 6 (n 2) a) 7 (n 2) q) (va_up (va_up T a (6, n 2)) q (7, n 2)) (va_up n 2 (n 2 + 1)) := by
  have hTo : ∀ y, y ≠ a → y ≠ q → (va_up (va_up T a (6, n 2)) q (7, n 2)) y = T y := fun y h0 h1 => by rw [va_up_ne _ _ h1, va_up_ne _ _ h0]
  refine ⟨⟨⟨g0, (hf _ (tg (hT.1 1 (by decide)) (hT.1 0 (by decide)) (by simp)) (tg (hT.1 1 (by decide)) (hT.1 3 (by decide)) (by simp)) (Ne.symm (tag_no ha hR.1.2.1)) (Ne.symm (tag_no hq hR.1.2.1))).trans hR.1.2.1, (hf _ (tg (hT.1 2 (by decide)) (hT.1 0 (by decide)) (by simp)) (tg (hT.1 2 (by decide)) (hT.1 3 (by decide)) (by simp)) (Ne.symm (tag_no ha hR.1.2.2.1)) (Ne.symm (tag_no hq hR.1.2.2.1))).trans hR.1.2.2.1, cp_fix g1 (by rw [q_add]; rfl), (hf _ (tg (hT.1 4 (by decide)) (hT.1 0 (by decide)) (by simp)) (tg (hT.1 4 (by decide)) (hT.1 3 (by decide)) (by simp)) (Ne.symm (tag_no ha hR.1.2.2.2.2)) (Ne.symm (tag_no hq hR.1.2.2.2.2))).trans hR.1.2.2.2.2⟩, ?_, ?_, ?_⟩, ?_, ?_, ?_, ?_⟩
  · intro v hv
    have hv : v < n 0 := by simpa [va_up] using hv
    refine ⟨?_, ?_⟩
    · rw [show (up2 (up2 b 6 (n 2) a) 7 (n 2) q) 1 v = b 1 v by simp [up2, va_up]]
      exact cp_fix ((hf _ (tg (hT.2.1 v hv).1 (hT.1 0 (by decide)) (by simp)) (tg (hT.2.1 v hv).1 (hT.1 3 (by decide)) (by simp)) (Ne.symm (tag_no ha (hR.2.1 v hv).1)) (Ne.symm (tag_no hq (hR.2.1 v hv).1))).trans (hR.2.1 v hv).1) (by simp [up2, up3, va_up, cp_pg, cp_or, cp_tx])
    · rw [show (up2 (up2 b 6 (n 2) a) 7 (n 2) q) 2 v = b 2 v by simp [up2, va_up]]
      exact cp_fix ((hf _ (tg (hT.2.1 v hv).2 (hT.1 0 (by decide)) (by simp)) (tg (hT.2.1 v hv).2 (hT.1 3 (by decide)) (by simp)) (Ne.symm (tag_no ha (hR.2.1 v hv).2)) (Ne.symm (tag_no hq (hR.2.1 v hv).2))).trans (hR.2.1 v hv).2) (by simp [up2, up3, va_up, cp_pg, cp_or, cp_tx])
  · intro v hv
    have hv : v < n 1 := by simpa [va_up] using hv
    refine ⟨?_, ?_, ?_⟩
    · rw [show (up2 (up2 b 6 (n 2) a) 7 (n 2) q) 3 v = b 3 v by simp [up2, va_up]]
      exact cp_fix ((hf _ (tg (hT.2.2.1 v hv).1 (hT.1 0 (by decide)) (by simp)) (tg (hT.2.2.1 v hv).1 (hT.1 3 (by decide)) (by simp)) (Ne.symm (tag_no ha (hR.2.2.1 v hv).1)) (Ne.symm (tag_no hq (hR.2.2.1 v hv).1))).trans (hR.2.2.1 v hv).1) (by simp [up2, up3, va_up, cp_pg, cp_or, cp_tx])
    · rw [show (up2 (up2 b 6 (n 2) a) 7 (n 2) q) 4 v = b 4 v by simp [up2, va_up]]
      exact cp_fix ((hf _ (tg (hT.2.2.1 v hv).2.1 (hT.1 0 (by decide)) (by simp)) (tg (hT.2.2.1 v hv).2.1 (hT.1 3 (by decide)) (by simp)) (Ne.symm (tag_no ha (hR.2.2.1 v hv).2.1)) (Ne.symm (tag_no hq (hR.2.2.1 v hv).2.1))).trans (hR.2.2.1 v hv).2.1) (by simp [up2, up3, va_up, cp_pg, cp_or, cp_tx])
    · rw [show (up2 (up2 b 6 (n 2) a) 7 (n 2) q) 5 v = b 5 v by simp [up2, va_up]]
      exact cp_fix ((hf _ (tg (hT.2.2.1 v hv).2.2 (hT.1 0 (by decide)) (by simp)) (tg (hT.2.2.1 v hv).2.2 (hT.1 3 (by decide)) (by simp)) (Ne.symm (tag_no ha (hR.2.2.1 v hv).2.2)) (Ne.symm (tag_no hq (hR.2.2.1 v hv).2.2))).trans (hR.2.2.1 v hv).2.2) (by simp [up2, up3, va_up, cp_pg, cp_or, cp_tx])
  · intro v hv
    have hv : v < n 2 + 1 := by simpa [va_up] using hv
    by_cases e : v = n 2
    · subst e
      refine ⟨?_, ?_⟩
      · rw [show (up2 (up2 b 6 (n 2) a) 7 (n 2) q) 6 (n 2) = a by simp [up2, va_up]]
        exact cp_fix ga (by simp [up2, up3, va_up, cp_pg, cp_or, cp_tx])
      · rw [show (up2 (up2 b 6 (n 2) a) 7 (n 2) q) 7 (n 2) = q by simp [up2, va_up]]
        exact cp_fix gq (by simp [up2, up3, va_up, cp_pg, cp_or, cp_tx])
    · have hv2 : v < n 2 := by omega
      refine ⟨?_, ?_⟩
      · rw [show (up2 (up2 b 6 (n 2) a) 7 (n 2) q) 6 v = b 6 v by simp [up2, va_up, e]]
        exact cp_fix ((hf _ (tg (hT.2.2.2 v hv2).1 (hT.1 0 (by decide)) (by simp)) (tg (hT.2.2.2 v hv2).1 (hT.1 3 (by decide)) (by simp)) (Ne.symm (tag_no ha (hR.2.2.2 v hv2).1)) (Ne.symm (tag_no hq (hR.2.2.2 v hv2).1))).trans (hR.2.2.2 v hv2).1) (by simp [up2, up3, va_up, cp_pg, cp_or, cp_tx, e])
      · rw [show (up2 (up2 b 6 (n 2) a) 7 (n 2) q) 7 v = b 7 v by simp [up2, va_up, e]]
        exact cp_fix ((hf _ (tg (hT.2.2.2 v hv2).2 (hT.1 0 (by decide)) (by simp)) (tg (hT.2.2.2 v hv2).2 (hT.1 3 (by decide)) (by simp)) (Ne.symm (tag_no ha (hR.2.2.2 v hv2).2)) (Ne.symm (tag_no hq (hR.2.2.2 v hv2).2))).trans (hR.2.2.2 v hv2).2) (by simp [up2, up3, va_up, cp_pg, cp_or, cp_tx, e])
  · intro j hj
    have hold : ∃ e, M (h j) = some e := by
      rcases (show j = 0 ∨ j = 1 ∨ j = 2 ∨ j = 3 ∨ j = 4 by omega) with rfl | rfl | rfl | rfl | rfl
      · exact ⟨_, hR.1.1⟩
      · exact ⟨_, hR.1.2.1⟩
      · exact ⟨_, hR.1.2.2.1⟩
      · exact ⟨_, hR.1.2.2.2.1⟩
      · exact ⟨_, hR.1.2.2.2.2⟩
    obtain ⟨e, he⟩ := hold
    exact (hTo _ (Ne.symm (tag_no ha he)) (Ne.symm (tag_no hq he))).trans (hT.1 j hj)
  · intro v hv
    have hv : v < n 0 := by simpa [va_up] using hv
    refine ⟨?_, ?_⟩
    · rw [show (up2 (up2 b 6 (n 2) a) 7 (n 2) q) 1 v = b 1 v by simp [up2, va_up]]
      exact (hTo _ (Ne.symm (tag_no ha (hR.2.1 v hv).1)) (Ne.symm (tag_no hq (hR.2.1 v hv).1))).trans (hT.2.1 v hv).1
    · rw [show (up2 (up2 b 6 (n 2) a) 7 (n 2) q) 2 v = b 2 v by simp [up2, va_up]]
      exact (hTo _ (Ne.symm (tag_no ha (hR.2.1 v hv).2)) (Ne.symm (tag_no hq (hR.2.1 v hv).2))).trans (hT.2.1 v hv).2
  · intro v hv
    have hv : v < n 1 := by simpa [va_up] using hv
    refine ⟨?_, ?_, ?_⟩
    · rw [show (up2 (up2 b 6 (n 2) a) 7 (n 2) q) 3 v = b 3 v by simp [up2, va_up]]
      exact (hTo _ (Ne.symm (tag_no ha (hR.2.2.1 v hv).1)) (Ne.symm (tag_no hq (hR.2.2.1 v hv).1))).trans (hT.2.2.1 v hv).1
    · rw [show (up2 (up2 b 6 (n 2) a) 7 (n 2) q) 4 v = b 4 v by simp [up2, va_up]]
      exact (hTo _ (Ne.symm (tag_no ha (hR.2.2.1 v hv).2.1)) (Ne.symm (tag_no hq (hR.2.2.1 v hv).2.1))).trans (hT.2.2.1 v hv).2.1
    · rw [show (up2 (up2 b 6 (n 2) a) 7 (n 2) q) 5 v = b 5 v by simp [up2, va_up]]
      exact (hTo _ (Ne.symm (tag_no ha (hR.2.2.1 v hv).2.2)) (Ne.symm (tag_no hq (hR.2.2.1 v hv).2.2))).trans (hT.2.2.1 v hv).2.2
  · intro v hv
    have hv : v < n 2 + 1 := by simpa [va_up] using hv
    by_cases e : v = n 2
    · subst e
      refine ⟨?_, ?_⟩
      · rw [show (up2 (up2 b 6 (n 2) a) 7 (n 2) q) 6 (n 2) = a by simp [up2, va_up]]
        simp [va_up, haq]
      · rw [show (up2 (up2 b 6 (n 2) a) 7 (n 2) q) 7 (n 2) = q by simp [up2, va_up]]
        simp [va_up, (Ne.symm haq)]
    · have hv2 : v < n 2 := by omega
      refine ⟨?_, ?_⟩
      · rw [show (up2 (up2 b 6 (n 2) a) 7 (n 2) q) 6 v = b 6 v by simp [up2, va_up, e]]
        exact (hTo _ (Ne.symm (tag_no ha (hR.2.2.2 v hv2).1)) (Ne.symm (tag_no hq (hR.2.2.2 v hv2).1))).trans (hT.2.2.2 v hv2).1
      · rw [show (up2 (up2 b 6 (n 2) a) 7 (n 2) q) 7 v = b 7 v by simp [up2, va_up, e]]
        exact (hTo _ (Ne.symm (tag_no ha (hR.2.2.2 v hv2).2)) (Ne.symm (tag_no hq (hR.2.2.2 v hv2).2))).trans (hT.2.2.2 v hv2).2
theorem fm_ok {z i : Nat} (hz : z < 3) (hi : i < 256) : okm (fm z i) := by
  unfold fm
  split
  · split
    · exact Or.inr (vp_in_nI (by omega) (by omega))
    · exact Or.inl rfl
  · split
    · exact Or.inr (vp_in_nI (by omega) (by omega))
    · exact Or.inl rfl
theorem fm_inj {z i j : Nat} (hi : i < 256) (hj : j < 256) (h : fm z i = fm z j) (hn : fm z i ≠ -1) : i = j := by
  unfold fm at h hn
  by_cases h0 : z = 0
  · rw [if_pos h0] at h hn
    rw [if_pos h0] at h
    by_cases h1 : i < 128
    · rw [if_pos h1] at h
      by_cases h2 : j < 128
      · rw [if_pos h2] at h
        exact (nI_eq (by omega) (by omega)).mp h
      · rw [if_neg h2] at h
        exact absurd h (nI_m1 (by omega))
    · rw [if_neg h1] at hn
      exact absurd rfl hn
  · rw [if_neg h0] at h hn
    rw [if_neg h0] at h
    by_cases h1 : z = 1
    · rw [if_pos h1, if_pos h1] at h
      have h2 := (nI_eq (by omega) (by omega)).mp h
      have e1 : (23 * ((167 * i + 13) % 256) + 213) % 256 = i := by omega
      have e2 : (23 * ((167 * j + 13) % 256) + 213) % 256 = j := by omega
      rw [← e1, ← e2, h2]
    · rw [if_neg h1] at hn
      exact absurd rfl hn
/-- a page more -/
theorem sm_page {n : Nat → Nat} {c : Nat → Nat → Nat → Int32} {g : Nat → Nat → Int32} {L : Nat → Nat} {X : Nat → Nat → Nat} (h : sm n c g L X) {z : Nat} (hz : z < 3) : sm (va_up n 0 (n 0 + 1)) (up3 (up3 c 1 (n 0) (blk (fun _ => 0) 0 256 (fm z))) 2 (n 0) (fun _ => nI 63)) (va_up (va_up g 1 (blk (g 1) (256 * n 0) 256 (fm z))) 2 (upd (g 2) (n 0) (nI 63))) L X := by
  obtain ⟨h1, h2, h3, h4, h5⟩ := h
  refine ⟨fun p hp => ?_, h2, h3, h4, h5⟩
  have hp : p < n 0 + 1 := hp
  rw [va_up_self, va_up_ne (va_up g 1 _) _ (show 1 ≠ 2 by decide), va_up_self, up3_o (show 1 ≠ 2 by decide)]
  by_cases e : p = n 0
  · subst e
    refine ⟨by rw [up3_s, pk_us], ⟨63, by omega, pk_us⟩, fun i hi => ?_, fun i j hi hj e1 e2 => ?_⟩
    · have a1 : blk (fun _ => 0) 0 256 (fm z) i = fm z i := by
        have := blk_in (f := fun _ => 0) (a := 0) (h := fm z) hi
        rwa [Nat.zero_add] at this
      rw [up3_s, a1, blk_in hi]
      exact ⟨rfl, fm_ok hz hi⟩
    · rw [blk_in hi, blk_in hj] at e1
      rw [blk_in hi] at e2
      exact fm_inj hi hj e1 e2
  · obtain ⟨a1, a2, a3, a4⟩ := h1 p (by omega)
    refine ⟨by rw [up3_n e, up3_o (by decide), pk_un e]; exact a1, by rw [pk_un e]; exact a2, fun i hi => ?_, fun i j hi hj e1 e2 => ?_⟩
    · rw [up3_n e, blk_out (by omega)]
      exact a3 i hi
    · rw [blk_out (by omega), blk_out (by omega)] at e1
      rw [blk_out (by omega)] at e2
      exact a4 i j hi hj e1 e2
theorem cntb_all {b : Nat → Bool} : ∀ {c : Nat}, (∀ y, y < c → b y = true) → cntb b c = c
  | 0, _ => rfl
  | c + 1, h => by rw [cntb_t (h c (by omega)), cntb_all (fun y hy => h y (by omega))]
/-- an order more -/
theorem sm_order {n : Nat → Nat} {c : Nat → Nat → Nat → Int32} {g : Nat → Nat → Int32} {L : Nat → Nat} {X : Nat → Nat → Nat} (h : sm n c g L X) {z : Nat} (hz : z < 3) {f3 : Nat → Int32} (hf : ∀ i, i < 256 → f3 i = if z = 2 then nI i else fo n g z i) {y : Int32} (hy : y = bz (z = 2)) :
    sm (va_up n 1 (n 1 + 1)) (up3 (up3 (up3 (up3 c 3 (n 1) f3) 4 (n 1) (fun _ => 0)) 5 (n 1) (fun _ => 0)) 6 (n 1) (fun _ => y)) (va_up (va_up (va_up g 4 (upd (g 4) (n 1) (nI z))) 6 (upd (g 6) (n 1) 0)) 5 (blk (g 5) (256 * n 1) 256 (fo n g z))) L X := by
  obtain ⟨h1, h2, h3, h4, h5⟩ := h
  generalize hG : va_up (va_up (va_up g 4 (upd (g 4) (n 1) (nI z))) 6 (upd (g 6) (n 1) 0)) 5 (blk (g 5) (256 * n 1) 256 (fo n g z)) = G
  have e4 : G 4 = upd (g 4) (n 1) (nI z) := by rw [← hG]; rfl
  have e5 : G 5 = blk (g 5) (256 * n 1) 256 (fo n g z) := by rw [← hG]; rfl
  have e6 : G 6 = upd (g 6) (n 1) 0 := by rw [← hG]; rfl
  have e1 : G 1 = g 1 := by rw [← hG]; rfl
  have e2 : G 2 = g 2 := by rw [← hG]; rfl
  have e8 : G 8 = g 8 := by rw [← hG]; rfl
  have e9 : G 9 = g 9 := by rw [← hG]; rfl
  have e11 : G 11 = g 11 := by rw [← hG]; rfl
  refine ⟨fun p hp => by rw [e1, e2]; exact h1 p hp, fun o ho => ?_, h3, fun t ht => by rw [e8, e9]; exact h4 t ht, fun j hj => by rw [e11]; exact h5 j hj⟩
  have ho : o < n 1 + 1 := ho
  have u6 : ∀ f, up3 (up3 (up3 (up3 c 3 (n 1) f3) 4 (n 1) (fun _ => 0)) 5 (n 1) (fun _ => 0)) 6 (n 1) f 3 = up3 c 3 (n 1) f3 3 := fun f => by rw [up3_o (by decide), up3_o (by decide), up3_o (by decide)]
  by_cases e : o = n 1
  · subst e
    have k4 : G 4 (n 1) = nI z := by rw [e4, pk_us]
    have hz2 : G 4 (n 1) = nI 2 ↔ z = 2 := by rw [k4]; exact nI_eq (by omega) (by omega)
    refine ⟨?_, fun i hi => ?_, fun hk => ⟨?_, fun i hi => ?_⟩⟩
    · rw [up3_s, hy]
      by_cases q : z = 2
      · rw [bz_t q, bz_t (hz2.mpr q)]
      · rw [bz_f q, bz_f (fun x => q (hz2.mp x))]
    · rw [u6, up3_s, hf i hi]
      unfold rko
      rw [e5, blk_in hi]
      by_cases q : z = 2
      · have m1 : ∀ d, d < 256 → nob G (n 1) d = true := fun d hd => by
          unfold nob
          rw [e5, blk_in hd]
          unfold fo
          rw [if_pos q]
          decide
        rw [if_pos q, if_pos ⟨hz2.mpr q, by unfold fo; rw [if_pos q]⟩, e6, pk_us, cntb_all (fun d hd => m1 d (by omega)), Int32.zero_add]
      · rw [if_neg q, if_neg (fun x => q (hz2.mp x.1))]
    · rw [up3_o (by decide), up3_s, e6, pk_us]
    · rw [up3_o (by decide), up3_o (by decide), up3_s, e5, blk_in hi]
      have q := hz2.mp hk
      rw [bz_f (by unfold fo; rw [if_pos q]; exact fun x => x rfl)]
  · obtain ⟨b1, b2, b3⟩ := h2 o (by omega)
    have k4 : G 4 o = g 4 o := by rw [e4, pk_un e]
    have k6 : G 6 o = g 6 o := by rw [e6, pk_un e]
    have k5 : ∀ i, i < 256 → G 5 (256 * o + i) = g 5 (256 * o + i) := fun i hi => by rw [e5, blk_out (by omega)]
    rw [k4]
    refine ⟨by rw [up3_n e, up3_o (by decide), up3_o (by decide), up3_o (by decide)]; exact b1, fun i hi => ?_, fun hk => ⟨?_, fun i hi => ?_⟩⟩
    · rw [u6, up3_n e, b2 i hi]
      unfold rko
      rw [k4, k6, k5 i hi, cntb_ext (b := nob g o) (b' := nob G o) (fun d hd => by unfold nob; rw [k5 d (by omega)])]
    · rw [up3_o (by decide), up3_n e, up3_o (by decide), up3_o (by decide), k6]
      exact (b3 hk).1
    · rw [up3_o (by decide), up3_o (by decide), up3_n e, up3_o (by decide), k5 i hi]
      exact (b3 hk).2 i hi
theorem kx_inj {n : Nat → Nat} {c : Nat → Nat → Nat → Int32} {g : Nat → Nat → Int32} (h : sm_P n c g) (h0 : 0 < n 0) : ∀ x y, x < 256 → y < 256 → kx (c 1 0) x = kx (c 1 0) y → x = y := by
  obtain ⟨-, -, h3, h4⟩ := h 0 h0
  intro x y hx hy e
  unfold kx at e
  obtain ⟨a1, a2⟩ := h3 x hx
  obtain ⟨b1, b2⟩ := h3 y hy
  rw [a1, b1] at e
  have big : ∀ u q, okm u → u ≠ -1 → q < 256 → u ≠ nI (65536 + q) := fun u q hu hn hq e => by
    rcases hu with hu | hu
    · exact hn hu
    · rw [e] at hu
      have := (in_nI (by omega) (by omega)).mp hu
      omega
  by_cases p1 : g 1 (256 * 0 + x) = -1
  · rw [if_pos p1] at e
    by_cases p2 : g 1 (256 * 0 + y) = -1
    · rw [if_pos p2] at e
      have := (nI_eq (by omega) (by omega)).mp e
      omega
    · rw [if_neg p2] at e
      exact absurd e.symm (big _ _ b2 p2 hx)
  · rw [if_neg p1] at e
    by_cases p2 : g 1 (256 * 0 + y) = -1
    · rw [if_pos p2] at e
      exact absurd e (big _ _ a2 p1 hy)
    · rw [if_neg p2] at e
      exact h4 x y hx hy e p1
theorem mnt_rk {n : Nat → Nat} {c : Nat → Nat → Nat → Int32} {g : Nat → Nat → Int32} (h : sm_P n c g) (h0 : 0 < n 0) {x : Nat} (hx : x < 256) : cntb (ltb (Kx (c 1 0)) x) 256 = mnt n g x := by
  obtain ⟨-, -, h3, -⟩ := h 0 h0
  unfold mnt
  rw [if_neg (by omega)]
  refine cntb_ext (fun d hd => ?_)
  obtain ⟨a1, a2⟩ := h3 x hx
  obtain ⟨b1, b2⟩ := h3 d hd
  rw [show 256 * 0 + x = x by omega] at a1 a2
  rw [show 256 * 0 + d = d by omega] at b1 b2
  have val : ∀ u, okm u → u ≠ -1 → 0 ≤ u.toInt ∧ u.toInt < 65536 := fun u hu hn => by
    rcases hu with hu | hu
    · exact absurd hu hn
    · have := vp_in_iff.mp hu
      omega
  unfold ltb ahd Kx kx
  rw [a1, b1]
  refine decide_eq_decide.mpr ?_
  by_cases p1 : g 1 d = -1
  · rw [if_pos p1, if_pos p1, nI_toInt (by omega)]
    by_cases p2 : g 1 x = -1
    · rw [if_pos p2, nI_toInt (by omega)]
      exact ⟨fun q => ⟨p2, by omega⟩, fun q => by have := q.2; omega⟩
    · rw [if_neg p2]
      have := val _ a2 p2
      exact ⟨fun q => by omega, fun q => absurd q.1 p2⟩
  · rw [if_neg p1, if_neg p1]
    have v1 := val _ b2 p1
    by_cases p2 : g 1 x = -1
    · rw [if_pos p2, nI_toInt (by omega)]
      exact ⟨fun _ => Or.inl p2, fun _ => by omega⟩
    · rw [if_neg p2]
      exact ⟨fun q => Or.inr (Int32.lt_iff_toInt_lt.mpr q), fun q => by rcases q with q | q; exact absurd q p2; exact Int32.lt_iff_toInt_lt.mp q⟩
/-- a text more -/
theorem sm_text {n : Nat → Nat} {c : Nat → Nat → Nat → Int32} {g : Nat → Nat → Int32} {L : Nat → Nat} {X : Nat → Nat → Nat} (h : sm n c g L X) (h9 : g 9 (n 2) = 0) : sm (va_up n 2 (n 2 + 1)) (up3 (up3 c 7 (n 2) (fun _ => 0)) 8 (n 2) (fun _ => 0)) g (va_up L (n 2) 0) X := by
  obtain ⟨h1, h2, h3, h4, h5⟩ := h
  refine ⟨h1, h2, fun t ht => ?_, fun t ht => ?_, h5⟩
  · have ht : t < n 2 + 1 := ht
    by_cases e : t = n 2
    · subst e
      rw [va_up_self]
      exact ⟨by rw [up3_s]; rfl, fun q hq => absurd hq (Nat.not_lt_zero _)⟩
    · rw [va_up_ne _ _ e, up3_n e, up3_o (by decide), up3_o (by decide), up3_n e]
      exact h3 t (by omega)
  · have ht : t < n 2 + 1 := ht
    by_cases e : t = n 2
    · subst e
      rw [va_up_self]
      exact ⟨by omega, h9, fun q hq => absurd hq (Nat.not_lt_zero _)⟩
    · rw [va_up_ne _ _ e]
      exact h4 t (by omega)
theorem cp_mono {k : Nat → ClassId} {h : Nat → Nat} {b : Nat → Nat → Nat} {n : Nat → Nat} {c : Nat → Nat → Nat → Int32} {M M1 : mw} (hR : cp_R k h b n c M) (hm : ∀ z e, M z = some e → M1 z = some e) : cp_R k h b n c M1 :=
  ⟨⟨hm _ _ hR.1.1, hm _ _ hR.1.2.1, hm _ _ hR.1.2.2.1, hm _ _ hR.1.2.2.2.1, hm _ _ hR.1.2.2.2.2⟩, fun p hp => ⟨hm _ _ (hR.2.1 p hp).1, hm _ _ (hR.2.1 p hp).2⟩, fun o ho => ⟨hm _ _ (hR.2.2.1 o ho).1, hm _ _ (hR.2.2.1 o ho).2.1, hm _ _ (hR.2.2.1 o ho).2.2⟩, fun t ht => ⟨hm _ _ (hR.2.2.2 t ht).1, hm _ _ (hR.2.2.2 t ht).2⟩⟩
/-- the same with a cell that was made on the way and is used no more -/
theorem cp_addOq {k : Nat → ClassId} {h : Nat → Nat} {b : Nat → Nat → Nat} {T : Nat → Nat × Nat} {n : Nat → Nat} {c : Nat → Nat → Nat → Int32} {M M1 : mw} {qt : Nat} (hR : cp_R k h b n c M) (hT : cp_T h b T n) {a q r : Nat} (hqt : ∀ y, y ≠ a → y ≠ q → y ≠ r → M y ≠ none → y ≠ qt) {f f2 : Nat → Int32} {x y : Int32} (ha : M a = none) (hq : M q = none) (hr : M r = none) (haq : a ≠ q) (har : a ≠ r) (hqr : q ≠ r) (g0 : M1 (h 0) = some (cp_r h (va_up n 1 (n 1 + 1)))) (g1 : M1 (h 2) = some (.inl (k 3, 12, .inr (.inr (.inr (.inr (va_up (fun p => if p < n 1 then some (b 3 p) else none) (n 1) (some a)))))))) (ga : M1 a = some (.inr (1, [.int y, .ref q, .ref r, .int x]))) (gq : M1 q = some (.inl (k 0, 256, .inl f))) (gr : M1 r = some (.inl (k 1, 256, .inl f2)))
    (hf : ∀ y, y ≠ qt → y ≠ h 0 → y ≠ h 2 → y ≠ a → y ≠ q → y ≠ r → M1 y = M y) :
    cp_R k h (up2 (up2 (up2 b 3 (n 1) a) 4 (n 1) q) 5 (n 1) r) (va_up n 1 (n 1 + 1)) (up3 (up3 (up3 (up3 c 3 (n 1) f) 4 (n 1) f2) 5 (n 1) (fun _ => x)) 6 (n 1) (fun _ => y)) M1 ∧ cp_T h (up2 (up2 (up2 b 3 (n 1) a) 4 (n 1) q) 5 (n 1) r) (va_up (va_up (va_up T a (3, n 1)) q (4, n 1)) r (5, n 1)) (va_up n 1 (n 1 + 1)) := by
  -- a map that agrees with M1 where M, or the new cells, are
  have key : cp_R k h (up2 (up2 (up2 b 3 (n 1) a) 4 (n 1) q) 5 (n 1) r) (va_up n 1 (n 1 + 1)) (up3 (up3 (up3 (up3 c 3 (n 1) f) 4 (n 1) f2) 5 (n 1) (fun _ => x)) 6 (n 1) (fun _ => y)) (fun z => if M z = none ∧ z ≠ a ∧ z ≠ q ∧ z ≠ r then none else M1 z) ∧ cp_T h (up2 (up2 (up2 b 3 (n 1) a) 4 (n 1) q) 5 (n 1) r) (va_up (va_up (va_up T a (3, n 1)) q (4, n 1)) r (5, n 1)) (va_up n 1 (n 1 + 1)) := by
    refine cp_addO hR hT ha hq hr haq har hqr ?_ ?_ ?_ ?_ ?_ (fun z h1 h2 h3 h4 h5 => ?_)
    · rw [if_neg (fun w => by rw [hR.1.1] at w; exact absurd w.1 (by simp))]
      exact g0
    · rw [if_neg (fun w => by rw [hR.1.2.2.1] at w; exact absurd w.1 (by simp))]
      exact g1
    · rw [if_neg (fun w => w.2.1 rfl)]
      exact ga
    · rw [if_neg (fun w => w.2.2.1 rfl)]
      exact gq
    · rw [if_neg (fun w => w.2.2.2 rfl)]
      exact gr
    · by_cases w : M z = none
      · rw [if_pos ⟨w, h3, h4, h5⟩, w]
      · rw [if_neg (fun v => w v.1)]
        exact hf z (hqt z h3 h4 h5 w) h1 h2 h3 h4 h5
  refine ⟨cp_mono key.1 (fun z e hz => ?_), key.2⟩
  by_cases w : M z = none ∧ z ≠ a ∧ z ≠ q ∧ z ≠ r
  · rw [if_pos w] at hz
    cases hz
  · rw [if_neg w] at hz
    exact hz
