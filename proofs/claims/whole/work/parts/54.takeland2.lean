/-! The land is taken over, whole -/
theorem tl_c {c : gS} : ∃ c', Sm KL c c' ∧ (∀ j, j ≤ 8 → c'.1 14 j = c.1 4 j) ∧ (∀ q, q < 40 → c'.1 15 q = c.1 5 q ∧ c'.1 16 q = c.1 6 q ∧ c'.1 17 q = c.1 7 q ∧ c'.1 18 q = c.1 8 q ∧ c'.1 19 q = c.1 9 q ∧ c'.1 21 q = c.1 11 q) ∧ (∀ q, q < 200 → c'.1 20 q = c.1 10 q) ∧ f_X3_takeFrom 14 4 c = some (none, c') := by
  unfold f_X3_takeFrom f_X3_setLikes
  simp only [gl_s, gb_vn, sir (show (4 : Nat) ≠ 14 by decide)]
  generalize hz : g_si (g_si (g_si (g_si (g_si (g_si (g_si (g_si (g_si c 14 0 (c.1 4 0)) 14 1 (c.1 4 1)) 14 2 (c.1 4 2)) 14 3 (c.1 4 3)) 14 4 (c.1 4 4)) 14 5 (c.1 4 5)) 14 6 (c.1 4 6)) 14 7 (c.1 4 7)) 14 8 (c.1 4 8) = z
  have zr : ∀ k, k ≠ 14 → z.1 k = c.1 k := fun k hk => by rw [← hz]; simp only [sir hk]
  have zS : Sm KL c z := by
    rw [← hz]
    exact ((((((((Sm.si (by simp)).tr (Sm.si (by simp))).tr (Sm.si (by simp))).tr (Sm.si (by simp))).tr (Sm.si (by simp))).tr (Sm.si (by simp))).tr (Sm.si (by simp))).tr (Sm.si (by simp))).tr (Sm.si (by simp))
  obtain ⟨y, a1, a2, a3⟩ := tl_62 (c0 := z) (k := fun v2_13 s14 => (f_X3_takeFrom_148 14 4 (fun v2_16 s17 => (some (none, s17))) g_N (0 : Int32) s14)) g_N 0 z (by omega) (by unfold g_N; omega) Sm.rf (fun q hq => absurd hq (by omega))
  rw [← c32_0] at a3
  rw [a3]
  obtain ⟨x, b1, b2, b3⟩ := tl_148 (c0 := y) (k := fun v2_16 s17 => (some (none, s17))) g_N 0 y (by omega) (by unfold g_N; omega) Sm.rf (fun q hq => absurd hq (by omega))
  rw [← c32_0] at b3
  rw [b3]
  refine ⟨x, (zS.tr (a1.mono (fun k hk => by simp at hk ⊢; omega))).tr (b1.mono (fun k hk => by simp at hk ⊢; omega)), fun j hj => ?_, fun q hq => ?_, fun q hq => ?_, rfl⟩
  · rw [(b1 14 (by simp)).1, (a1 14 (by simp)).1, ← hz]
    rcases (show j = 0 ∨ j = 1 ∨ j = 2 ∨ j = 3 ∨ j = 4 ∨ j = 5 ∨ j = 6 ∨ j = 7 ∨ j = 8 by omega) with rfl | rfl | rfl | rfl | rfl | rfl | rfl | rfl | rfl <;> simp [si1]
  · have := a2 q hq
    rw [zr 5 (by decide), zr 6 (by decide), zr 7 (by decide), zr 8 (by decide), zr 9 (by decide), zr 11 (by decide)] at this
    rw [(b1 15 (by simp)).1, (b1 16 (by simp)).1, (b1 17 (by simp)).1, (b1 18 (by simp)).1, (b1 19 (by simp)).1, (b1 21 (by simp)).1]
    exact this
  · rw [b2 q hq, (a1 10 (by simp)).1, zr 10 (by decide)]
