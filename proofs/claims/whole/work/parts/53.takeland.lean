/-! The land is taken over -/
abbrev KL : List Nat := [14, 15, 16, 17, 18, 19, 20, 21]
theorem tl_62 {c0 : gS} {k : Int32 → gS → gR} : ∀ (n i : Nat) (c : gS), i ≤ 40 → 40 - i < n → Sm [15, 16, 17, 18, 19, 21] c0 c → (∀ q, q < i → c.1 15 q = c0.1 5 q ∧ c.1 16 q = c0.1 6 q ∧ c.1 17 q = c0.1 7 q ∧ c.1 18 q = c0.1 8 q ∧ c.1 19 q = c0.1 9 q ∧ c.1 21 q = c0.1 11 q) → ∃ c', Sm [15, 16, 17, 18, 19, 21] c0 c' ∧ (∀ q, q < 40 → c'.1 15 q = c0.1 5 q ∧ c'.1 16 q = c0.1 6 q ∧ c'.1 17 q = c0.1 7 q ∧ c'.1 18 q = c0.1 8 q ∧ c'.1 19 q = c0.1 9 q ∧ c'.1 21 q = c0.1 11 q) ∧ f_X3_takeFrom_62 14 4 k n (nI i) c = k (nI 40) c' := by
  intro n
  induction n with
  | zero => intro i c _ h2; omega
  | succ n ih =>
    intro i c h1 h2 hS hA
    rw [f_X3_takeFrom_62.eq_2, c32_40]
    by_cases hi : 40 ≤ i
    · have e : i = 40 := by omega
      subst e
      rw [if_pos ((nI_leI (by omega) (by omega)).mpr (Nat.le_refl _))]
      exact ⟨c, hS, hA, rfl⟩
    · have gi : ∀ o : gR, g_ix (nI i) 40 o = o := fun o => g_ixn (by omega) (by omega)
      have ci : (nI i).toNatClampNeg = i := nI_clamp (by omega)
      rw [if_neg (by rw [nI_leI (by omega) (by omega)]; omega)]
      simp only [gi, gl_s, ci, nI_1]
      have e5 := (hS 5 (by simp)).1
      have e6 := (hS 6 (by simp)).1
      have e7 := (hS 7 (by simp)).1
      have e8 := (hS 8 (by simp)).1
      have e9 := (hS 9 (by simp)).1
      have e11 := (hS 11 (by simp)).1
      refine ih (i + 1) _ (by omega) (by omega) ((((((hS.tr (Sm.si (by simp))).tr (Sm.si (by simp))).tr (Sm.si (by simp))).tr (Sm.si (by simp))).tr (Sm.si (by simp))).tr (Sm.si (by simp))) (fun q hq => ?_)
      by_cases eq : q = i
      · subst eq; simp [si1, e5, e6, e7, e8, e9, e11]
      · have := hA q (by omega)
        simp [si1, eq]; exact this
theorem tl_148 {c0 : gS} {k : Int32 → gS → gR} : ∀ (n i : Nat) (c : gS), i ≤ 200 → 200 - i < n → Sm [20] c0 c → (∀ q, q < i → c.1 20 q = c0.1 10 q) → ∃ c', Sm [20] c0 c' ∧ (∀ q, q < 200 → c'.1 20 q = c0.1 10 q) ∧ f_X3_takeFrom_148 14 4 k n (nI i) c = k (nI 200) c' := by
  intro n
  induction n with
  | zero => intro i c _ h2; omega
  | succ n ih =>
    intro i c h1 h2 hS hA
    rw [f_X3_takeFrom_148.eq_2, show (200 : Int32) = nI 200 from rfl]
    by_cases hi : 200 ≤ i
    · have e : i = 200 := by omega
      subst e
      rw [if_pos ((nI_leI (by omega) (by omega)).mpr (Nat.le_refl _))]
      exact ⟨c, hS, hA, rfl⟩
    · rw [if_neg (by rw [nI_leI (by omega) (by omega)]; omega), g_ixn (by omega) (by omega), g_ixn (by omega) (by omega), nI_clamp (by omega), gl_s, nI_1]
      refine ih (i + 1) _ (by omega) (by omega) (hS.tr (Sm.si (by simp))) (fun q hq => ?_)
      by_cases eq : q = i
      · subst eq; rw [si_eq, (hS (4 + 6) (by simp)).1]
      · rw [si_nj eq]; exact hA q (by omega)
