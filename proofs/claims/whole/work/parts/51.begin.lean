/-! Before reading -/
theorem gb_vn {σ : gS} {f : gS → gR} : g_bind (some (none, σ)) (g_kv f) = f σ := by rw [gb_v]
theorem bg_34 {c0 : gS} {k : Int32 → gS → gR} : ∀ (n i : Nat) (c : gS), i ≤ 40 → 40 - i < n → Sm [12, 13] c0 c → (∀ q, q < i → c.1 12 q = 0 ∧ c.1 13 q = 0) → ∃ c', Sm [12, 13] c0 c' ∧ (∀ q, q < 40 → c'.1 12 q = 0 ∧ c'.1 13 q = 0) ∧ f_X5_begin_34 k n (nI i) c = k (nI 40) c' := by
  intro n
  induction n with
  | zero => intro i c _ h2; omega
  | succ n ih =>
    intro i c h1 h2 hS hA
    rw [f_X5_begin_34.eq_2, c32_40]
    by_cases hi : 40 ≤ i
    · have e : i = 40 := by omega
      subst e
      rw [if_pos ((nI_leI (by omega) (by omega)).mpr (Nat.le_refl _))]
      exact ⟨c, hS, hA, rfl⟩
    · rw [if_neg (by rw [nI_leI (by omega) (by omega)]; omega), g_ixn (by omega) (by omega), nI_clamp (by omega), nb0, gl_s, g_ixn (by omega) (by omega), gl_s, nI_1]
      refine ih (i + 1) _ (by omega) (by omega) ((hS.tr (Sm.si (by simp))).tr (Sm.si (by simp))) (fun q hq => ?_)
      rw [sir (a := 12) (k := 13) (by decide)]
      by_cases eq : q = i
      · subst eq; rw [si_eq, si_eq]; exact ⟨rfl, rfl⟩
      · rw [si_nj eq, si_nj eq, sir (a := 13) (k := 12) (by decide)]; exact hA q (by omega)
theorem begin_c {c : gS} : ∃ c', PF c c' ∧ c'.1 1 4 = nI 0 ∧ c'.1 4 0 = nI 0 ∧ c'.1 4 1 = nI 0 ∧ c'.1 4 2 = nI 0 ∧ c'.1 4 3 = -1 ∧ c'.1 4 4 = nI 4 ∧ (c'.1 4 5 = nI 2 ∧ c'.1 4 6 = nI 3 ∧ c'.1 4 7 = nI 3 ∧ c'.1 4 8 = nI 4) ∧ (∀ j, 4 ≤ j → j ≤ 9 → c'.1 3 j = 0) ∧ c'.1 3 10 = -1 ∧ (∀ q, q < 40 → c'.1 12 q = 0 ∧ c'.1 13 q = 0) ∧ f_X5_begin c = some (none, c') := by
  unfold f_X5_begin f_X3_clear f_X3_setLikes
  simp only [gl_s, gb_vn]
  generalize hz : g_si (g_si (g_si (g_si (g_si (g_si (g_si (g_si (g_si (g_si (g_si (g_si (g_si (g_si c 4 0 0) 4 1 0) 4 2 0) 4 3 (-1)) 4 4 4) 4 5 2) 4 6 3) 4 7 3) 4 8 4) 3 4 0) 3 5 0) 3 6 0) 3 7 0) 3 8 0 = z
  obtain ⟨z1, a1, a2, a3⟩ := bg_34 (c0 := z) (k := fun v1_9 s10 => (g_bind (f_X7_rewind s10) (g_kv (fun s11 => some (none, g_si (g_si s11 3 9 0) 3 10 (-1)))))) g_N 0 z (by omega) (by unfold g_N; omega) Sm.rf (fun q hq => absurd hq (by omega))
  rw [← c32_0] at a3
  rw [a3]
  unfold f_X7_rewind
  simp only [gl_s, gb_vn]
  have zS : PF c z := by
    rw [← hz]
    exact (((((((((((((PF.si (by decide) (by decide)).tr (PF.si (by decide) (by decide))).tr (PF.si (by decide) (by decide))).tr (PF.si (by decide) (by decide))).tr (PF.si (by decide) (by decide))).tr (PF.si (by decide) (by decide))).tr (PF.si (by decide) (by decide))).tr (PF.si (by decide) (by decide))).tr (PF.si (by decide) (by decide))).tr (PF.si (by decide) (by decide))).tr (PF.si (by decide) (by decide))).tr (PF.si (by decide) (by decide))).tr (PF.si (by decide) (by decide))).tr (PF.si (by decide) (by decide))
  have P1 : ∀ (s : gS) (j : Nat) (v : Int32), j ≠ 1 → PF s (g_si s 1 j v) := fun s j v hj => ⟨Sm.si (by simp), si_nj (Ne.symm hj)⟩
  refine ⟨_, ((((((zS.tr ⟨a1.mono (fun k hk => by simp at hk ⊢; omega), by rw [(a1 1 (by simp)).1]⟩).tr (P1 _ 2 _ (by decide))).tr (P1 _ 3 _ (by decide))).tr (P1 _ 4 _ (by decide))).tr (PF.si (by decide) (by decide))).tr (PF.si (by decide) (by decide))), ?_, ?_, ?_, ?_, ?_, ?_, ?_, ?_, ?_, ?_, rfl⟩
  · rw [sir (by decide), sir (by decide), si_eq]; rfl
  · rw [sir (by decide), sir (by decide), sir (by decide), sir (by decide), sir (by decide), (a1 4 (by simp)).1, ← hz]; simp [si1]; rfl
  · rw [sir (by decide), sir (by decide), sir (by decide), sir (by decide), sir (by decide), (a1 4 (by simp)).1, ← hz]; simp [si1]; rfl
  · rw [sir (by decide), sir (by decide), sir (by decide), sir (by decide), sir (by decide), (a1 4 (by simp)).1, ← hz]; simp [si1]; rfl
  · rw [sir (by decide), sir (by decide), sir (by decide), sir (by decide), sir (by decide), (a1 4 (by simp)).1, ← hz]; simp [si1]
  · rw [sir (by decide), sir (by decide), sir (by decide), sir (by decide), sir (by decide), (a1 4 (by simp)).1, ← hz]; simp [si1]; rfl
  · rw [sir (by decide), sir (by decide), sir (by decide), sir (by decide), sir (by decide), (a1 4 (by simp)).1, ← hz]
    refine ⟨?_, ?_, ?_, ?_⟩ <;> simp [si1] <;> rfl
  · intro j h1 h2
    by_cases e9 : j = 9
    · rw [e9, si_nj (by decide), si_eq]
    · rw [si_nj (by omega), si_nj e9, sir (by decide), sir (by decide), sir (by decide), (a1 3 (by simp)).1, ← hz]
      rcases (show j = 4 ∨ j = 5 ∨ j = 6 ∨ j = 7 ∨ j = 8 by omega) with rfl | rfl | rfl | rfl | rfl <;> simp [si1]
  · rw [si_eq]
  · intro q hq
    rw [sir (by decide), sir (by decide), sir (by decide), sir (by decide), sir (by decide), sir (by decide), sir (by decide), sir (by decide), sir (by decide), sir (by decide)]
    exact a2 q hq
