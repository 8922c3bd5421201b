/-! Settling -/
theorem mc_131 {m0 : gS} {k : Int32 → gS → gR} : ∀ (n i : Nat) (m : gS), i ≤ 4 → 4 - i < n → (∀ r, r ≠ 6 → m.1 r = m0.1 r) → (∀ q, q < i → m.1 6 q = m0.1 17 q) → ∃ m', (∀ r, r ≠ 6 → m'.1 r = m0.1 r) ∧ (∀ q, q < 4 → m'.1 6 q = m0.1 17 q) ∧ f_X10_meadow_131 k n (nI i) m = k (nI 4) m' := by
  intro n
  induction n with
  | zero => intro i m _ h2; omega
  | succ n ih =>
    intro i m h1 h2 hS hA
    rw [f_X10_meadow_131.eq_2, show (4 : Int32) = nI 4 from rfl]
    by_cases hi : 4 ≤ i
    · have e : i = 4 := by omega
      subst e
      rw [if_pos ((nI_leI (by omega) (by omega)).mpr (Nat.le_refl _))]
      exact ⟨m, hS, hA, rfl⟩
    · rw [if_neg (by rw [nI_leI (by omega) (by omega)]; omega), g_ixn (by omega) (by omega), g_ixn (by omega) (by omega), nI_clamp (by omega), gl_s, nI_1]
      refine ih (i + 1) _ (by omega) (by omega) (fun r a => (sir a).trans (hS r a)) (fun q hq => ?_)
      by_cases eq : q = i
      · subst eq; rw [si_eq, hS 17 (by decide)]
      · rw [si_nj eq]; exact hA q (by omega)
theorem st_2 {c0 : gS} {k : Int32 → gS → gR} : ∀ (n i : Nat) (c : gS), i ≤ 40 → 40 - i < n → Sm [23, 24] c0 c → (∀ q, q < i → c.1 23 q = c0.1 17 q ∧ c.1 24 q = c0.1 17 q) → ∃ c', Sm [23, 24] c0 c' ∧ (∀ q, q < 40 → c'.1 23 q = c0.1 17 q ∧ c'.1 24 q = c0.1 17 q) ∧ f_X4_settle_2 22 k n (nI i) c = k (nI 40) c' := by
  intro n
  induction n with
  | zero => intro i c _ h2; omega
  | succ n ih =>
    intro i c h1 h2 hS hA
    rw [f_X4_settle_2.eq_2, c32_40]
    by_cases hi : 40 ≤ i
    · have e : i = 40 := by omega
      subst e
      rw [if_pos ((nI_leI (by omega) (by omega)).mpr (Nat.le_refl _))]
      exact ⟨c, hS, hA, rfl⟩
    · have gi : ∀ o : gR, g_ix (nI i) 40 o = o := fun o => g_ixn (by omega) (by omega)
      have ci : (nI i).toNatClampNeg = i := nI_clamp (by omega)
      rw [if_neg (by rw [nI_leI (by omega) (by omega)]; omega)]
      simp only [gi, gl_s, ci, nI_1]
      have e17 := (hS 17 (by simp)).1
      refine ih (i + 1) _ (by omega) (by omega) ((hS.tr (Sm.si (by simp))).tr (Sm.si (by simp))) (fun q hq => ?_)
      by_cases eq : q = i
      · subst eq; simp [si1, e17]
      · have := hA q (by omega)
        simp [si1, eq]; exact this
theorem settle_c {c : gS} : ∃ c', Sm [22, 23, 24] c c' ∧ (∀ q, q < 40 → c'.1 23 q = c.1 17 q ∧ c'.1 24 q = c.1 17 q) ∧ c'.1 22 3 = c.1 14 3 ∧ c'.1 22 4 = -1 ∧ c'.1 22 5 = -1 ∧ c'.1 22 6 = 0 ∧ c'.1 22 7 = 0 ∧ c'.1 22 8 = 0 ∧ c'.1 22 9 = c.1 22 9 ∧ c'.1 22 10 = c.1 22 10 ∧ f_X4_settle 22 c = some (none, c') := by
  unfold f_X4_settle
  obtain ⟨z, a1, a2, a3⟩ := st_2 (c0 := c) (k := fun v1_3 s4 => some (none, g_si (g_si (g_si (g_si (g_si (g_si s4 22 3 (s4.1 14 3)) 22 4 (-1)) 22 5 (-1)) 22 6 0) 22 7 0) 22 8 0)) g_N 0 c (by omega) (by unfold g_N; omega) Sm.rf (fun q hq => absurd hq (by omega))
  rw [← c32_0] at a3
  simp only [gl_s]
  rw [a3]
  have e14 := (a1 14 (by simp)).1
  have e22 := (a1 22 (by simp)).1
  refine ⟨_, ((((((a1.mono (fun k hk => by simp at hk ⊢; omega)).tr (Sm.si (by simp))).tr (Sm.si (by simp))).tr (Sm.si (by simp))).tr (Sm.si (by simp))).tr (Sm.si (by simp))).tr (Sm.si (by simp)), fun q hq => ?_, ?_, ?_, ?_, ?_, ?_, ?_, ?_, ?_, rfl⟩
  · simp only [sir (show (23 : Nat) ≠ 22 by decide), sir (show (24 : Nat) ≠ 22 by decide)]
    exact a2 q hq
  all_goals simp [si1, e14, e22]
