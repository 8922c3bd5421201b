/-! The reference's copies -/
theorem mc_64 {m0 : gS} {k : Int32 → gS → gR} : ∀ (n i : Nat) (m : gS), i ≤ 40 → 40 - i < n → (∀ r, r ≠ 1 → r ≠ 4 → r ≠ 5 → m.1 r = m0.1 r) → (∀ j, 80 ≤ j → m.1 1 j = m0.1 1 j) → (∀ q, q < i → m.1 4 q = m0.1 14 q ∧ m.1 5 q = m0.1 13 q ∧ m.1 1 q = m0.1 12 q ∧ m.1 1 (40 + q) = m0.1 12 q) → ∃ m', (∀ r, r ≠ 1 → r ≠ 4 → r ≠ 5 → m'.1 r = m0.1 r) ∧ (∀ j, 80 ≤ j → m'.1 1 j = m0.1 1 j) ∧ (∀ q, q < 40 → m'.1 4 q = m0.1 14 q ∧ m'.1 5 q = m0.1 13 q ∧ m'.1 1 q = m0.1 12 q ∧ m'.1 1 (40 + q) = m0.1 12 q) ∧ f_X10_meadow_64 k n (nI i) m = k (nI 40) m' := by
  intro n
  induction n with
  | zero => intro i m _ h2; omega
  | succ n ih =>
    intro i m h1 h2 hS hJ hA
    rw [f_X10_meadow_64.eq_2, c32_40]
    by_cases hi : 40 ≤ i
    · have e : i = 40 := by omega
      subst e
      rw [if_pos ((nI_leI (by omega) (by omega)).mpr (Nat.le_refl _))]
      exact ⟨m, hS, hJ, hA, rfl⟩
    · have gi : ∀ o : gR, g_ix (nI i) 40 o = o := fun o => g_ixn (by omega) (by omega)
      have g1 : ∀ o : gR, g_ix (0 + nI i) 88 o = o := fun o => by rw [c32_0, nI_add, Nat.zero_add]; exact g_ixn (by omega) (by omega)
      have g2 : ∀ o : gR, g_ix (nI 40 + nI i) 88 o = o := fun o => by rw [nI_add]; exact g_ixn (by omega) (by omega)
      have ci : (nI i).toNatClampNeg = i := nI_clamp (by omega)
      have c1 : (0 + nI i).toNatClampNeg = i := by rw [c32_0, nI_add, Nat.zero_add]; exact nI_clamp (by omega)
      have c2 : (nI 40 + nI i).toNatClampNeg = 40 + i := by rw [nI_add]; exact nI_clamp (by omega)
      rw [if_neg (by rw [nI_leI (by omega) (by omega)]; omega)]
      simp only [gi, g1, g2, gl_s, ci, c1, c2, nI_1]
      have e12 := hS 12 (by decide) (by decide) (by decide)
      have e13 := hS 13 (by decide) (by decide) (by decide)
      have e14 := hS 14 (by decide) (by decide) (by decide)
      refine ih (i + 1) _ (by omega) (by omega) (fun r a b d => by rw [sir a, sir a, sir d, sir b]; exact hS r a b d) (fun j hj => by rw [si_nj (by omega), si_nj (by omega), sir (by decide), sir (by decide)]; exact hJ j hj) (fun q hq => ?_)
      by_cases eq : q = i
      · subst eq
        have : ¬ q = 40 + q := by omega
        simp [si1, e12, e13, e14, this]
      · obtain ⟨x1, x2, x3, x4⟩ := hA q (by omega)
        have y1 : ¬ q = 40 + i := by omega
        have y2 : ¬ 40 + q = i := by omega
        have y3 : ¬ 40 + q = 40 + i := by omega
        simp [si1, eq, y1, y2, x1, x2, x3, x4]
