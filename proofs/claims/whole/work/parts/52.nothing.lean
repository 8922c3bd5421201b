/-! Before reading: the reference -/
theorem nt_12 {m0 : gS} {k : Int32 → gS → gR} : ∀ (n i : Nat) (m : gS), i ≤ 40 → 40 - i < n → (∀ r, r ≠ 12 → r ≠ 13 → r ≠ 14 → r ≠ 15 → r ≠ 16 → m.1 r = m0.1 r) → (∀ q, q < i → m.1 12 q = 1 ∧ m.1 13 q = 1 ∧ m.1 14 q = 0 ∧ m.1 15 q = 0 ∧ m.1 16 q = 0) → ∃ m', (∀ r, r ≠ 12 → r ≠ 13 → r ≠ 14 → r ≠ 15 → r ≠ 16 → m'.1 r = m0.1 r) ∧ (∀ q, q < 40 → m'.1 12 q = 1 ∧ m'.1 13 q = 1 ∧ m'.1 14 q = 0 ∧ m'.1 15 q = 0 ∧ m'.1 16 q = 0) ∧ f_X10_readsNothing_12 k n (nI i) m = k (nI 40) m' := by
  intro n
  induction n with
  | zero => intro i m _ h2; omega
  | succ n ih =>
    intro i m h1 h2 hS hA
    rw [f_X10_readsNothing_12.eq_2, c32_40]
    by_cases hi : 40 ≤ i
    · have e : i = 40 := by omega
      subst e
      rw [if_pos ((nI_leI (by omega) (by omega)).mpr (Nat.le_refl _))]
      exact ⟨m, hS, hA, rfl⟩
    · rw [if_neg (by rw [nI_leI (by omega) (by omega)]; omega), g_ixn (by omega) (by omega), nI_clamp (by omega), gl_s, g_ixn (by omega) (by omega), gl_s, g_ixn (by omega) (by omega), gl_s, g_ixn (by omega) (by omega), nb0, gl_s, g_ixn (by omega) (by omega), gl_s, nI_1]
      refine ih (i + 1) _ (by omega) (by omega) (fun r a b d e f => by rw [sir f, sir e, sir d, sir b, sir a]; exact hS r a b d e f) (fun q hq => ?_)
      by_cases eq : q = i
      · subst eq; simp [si1]
      · have := hA q (by omega)
        simp [si1, eq]; exact this
theorem nothing_m {m : gS} : ∃ m', Mk m m' ∧ m'.1 0 22 = nI 0 ∧ m'.1 0 23 = nI 0 ∧ m'.1 0 29 = nI 0 ∧ m'.1 0 30 = nI 4 ∧ (m'.1 17 0 = nI 2 ∧ m'.1 17 1 = nI 3 ∧ m'.1 17 2 = nI 3 ∧ m'.1 17 3 = nI 4) ∧ (∀ j, 32 ≤ j → j ≤ 37 → m'.1 0 j = 0) ∧ (∀ q, q < 40 → m'.1 12 q = 1 ∧ m'.1 13 q = 1 ∧ m'.1 14 q = 0 ∧ m'.1 15 q = 0 ∧ m'.1 16 q = 0) ∧ f_X10_readsNothing m = some (none, m') := by
  have i0 : ∀ o : gR, g_ix 0 4 o = o := fun o => g_ixn (k := 0) (by omega) (by omega)
  have i1 : ∀ o : gR, g_ix 1 4 o = o := fun o => g_ixn (k := 1) (by omega) (by omega)
  have i2 : ∀ o : gR, g_ix 2 4 o = o := fun o => g_ixn (k := 2) (by omega) (by omega)
  have i3 : ∀ o : gR, g_ix 3 4 o = o := fun o => g_ixn (k := 3) (by omega) (by omega)
  unfold f_X10_readsNothing
  simp only [gl_s, i0, i1, i2, i3, show (0 : Int32).toNatClampNeg = 0 by decide, show (1 : Int32).toNatClampNeg = 1 by decide, show (2 : Int32).toNatClampNeg = 2 by decide, show (3 : Int32).toNatClampNeg = 3 by decide]
  obtain ⟨z, a1, a2, a3⟩ := nt_12 (m0 := g_si (g_si m 0 22 0) 0 23 0) (k := fun v1_8 s9 => some (none, g_si (g_si (g_si (g_si (g_si (g_si (g_si (g_si (g_si (g_si (g_si (g_si s9 0 29 0) 0 30 4) 17 0 2) 17 1 3) 17 2 3) 17 3 4) 0 32 0) 0 33 0) 0 34 0) 0 35 0) 0 36 0) 0 37 0)) g_N 0 _ (by omega) (by unfold g_N; omega) (fun _ _ _ _ _ _ => rfl) (fun q hq => absurd hq (by omega))
  rw [← c32_0] at a3
  rw [a3]
  have z0 : z.1 0 = (g_si (g_si m 0 22 0) 0 23 0).1 0 := a1 0 (by decide) (by decide) (by decide) (by decide) (by decide)
  refine ⟨_, Mk.p0' (fun r a b => ?_) (fun j a => ?_), ?_, ?_, ?_, ?_, ?_, ?_, ?_, rfl⟩
  · have r0 : r ≠ 0 := by omega
    have r17 : r ≠ 17 := by omega
    rw [sir r0, sir r0, sir r0, sir r0, sir r0, sir r0, sir r17, sir r17, sir r17, sir r17, sir r0, sir r0, a1 r (by omega) (by omega) (by omega) (by omega) (by omega), sir r0, sir r0]
  · simp only [si1, z0]
    simp (disch := omega) only [if_neg, show ¬ (0 = 17 ∧ j = 0) by omega, show ¬ (0 = 17 ∧ j = 1) by omega, show ¬ (0 = 17 ∧ j = 2) by omega, show ¬ (0 = 17 ∧ j = 3) by omega, show ¬ (0 = 0 ∧ j = 37) by omega, show ¬ (0 = 0 ∧ j = 36) by omega, show ¬ (0 = 0 ∧ j = 35) by omega, show ¬ (0 = 0 ∧ j = 34) by omega, show ¬ (0 = 0 ∧ j = 33) by omega, show ¬ (0 = 0 ∧ j = 32) by omega, show ¬ (0 = 0 ∧ j = 30) by omega, show ¬ (0 = 0 ∧ j = 29) by omega, show ¬ (0 = 0 ∧ j = 23) by omega, show ¬ (0 = 0 ∧ j = 22) by omega]
    simp
  · simp [si1, z0]; rfl
  · simp [si1, z0]; rfl
  · simp [si1]; rfl
  · simp [si1]; rfl
  · refine ⟨?_, ?_, ?_, ?_⟩ <;> simp [si1] <;> rfl
  · intro j h1 h2
    rcases (show j = 32 ∨ j = 33 ∨ j = 34 ∨ j = 35 ∨ j = 36 ∨ j = 37 by omega) with rfl | rfl | rfl | rfl | rfl | rfl <;> simp [si1]
  · intro q hq
    have := a2 q hq
    simp only [sir (show (12 : Nat) ≠ 0 by decide), sir (show (12 : Nat) ≠ 17 by decide), sir (show (13 : Nat) ≠ 0 by decide), sir (show (13 : Nat) ≠ 17 by decide), sir (show (14 : Nat) ≠ 0 by decide), sir (show (14 : Nat) ≠ 17 by decide), sir (show (15 : Nat) ≠ 0 by decide), sir (show (15 : Nat) ≠ 17 by decide), sir (show (16 : Nat) ≠ 0 by decide), sir (show (16 : Nat) ≠ 17 by decide)]
    exact this
