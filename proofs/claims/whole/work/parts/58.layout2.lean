/-! The land is laid out, whole -/
section LAYOUT2
variable {w h : Nat}
theorem lo_71 {s0 : gS} {y : Nat} (hy : y < h) {k : Int32 → gS → gR} : ∀ (n x : Nat) (s : gS), x ≤ w → w - x < n → Sz s w h → Sm [5, 6, 7, 8, 9, 10, 11] s0 s → (∀ t, t < y * w + x → Cl s w h t) → ∃ s', Sm [5, 6, 7, 8, 9, 10, 11] s0 s' ∧ Sz s' w h ∧ (∀ t, t < y * w + w → Cl s' w h t) ∧ f_X3_layOut_71 4 (nI y) k n (nI x) s = k (nI w) s' := by
  intro n
  induction n with
  | zero => intro x s _ h2; omega
  | succ n ih =>
    intro x s h1 h2 L S A
    have hw := L.1.w
    rw [f_X3_layOut_71.eq_2, L.2.1]
    by_cases e : w ≤ x
    · have e' : x = w := by omega
      subst e'
      rw [if_pos ((nI_leI (by omega) (by omega)).mpr (Nat.le_refl _))]
      exact ⟨s, S, L, A, rfl⟩
    · obtain ⟨s1, f1, c1, e1⟩ := layCell_c L (show x < w by omega) hy
      obtain ⟨i1, i2, i3⟩ := inR_mk (w := w) (h := h) (i := x) (j := y) (by omega) hy
      rw [if_neg (by rw [nI_leI (by omega) (by omega)]; exact e), e1, gb_vn, nI_1]
      refine ih (x + 1) s1 (by omega) (by omega) (L.cg (f1.1 4 (by simp)).1) (S.tr f1.1) (fun t ht => ?_)
      by_cases z : t = y * w + x
      · rw [z]; exact c1
      · exact (A t (by omega)).fr L.1 (by omega) f1 z
theorem lo_60 {s0 : gS} {k : Int32 → gS → gR} : ∀ (n y : Nat) (s : gS), y ≤ h → h - y < n → Sz s w h → Sm [5, 6, 7, 8, 9, 10, 11] s0 s → (∀ t, t < y * w → Cl s w h t) → ∃ s', Sm [5, 6, 7, 8, 9, 10, 11] s0 s' ∧ (∀ t, t < h * w → Cl s' w h t) ∧ f_X3_layOut_60 4 k n (nI y) s = k (nI h) s' := by
  intro n
  induction n with
  | zero => intro y s _ h2; omega
  | succ n ih =>
    intro y s h1 h2 L S A
    have hw := L.1.w
    have hh := L.1.h
    rw [f_X3_layOut_60.eq_2, L.2.2.1]
    by_cases e : h ≤ y
    · have e' : y = h := by omega
      subst e'
      rw [if_pos ((nI_leI (by omega) (by omega)).mpr (Nat.le_refl _))]
      exact ⟨s, S, A, rfl⟩
    · rw [if_neg (by rw [nI_leI (by omega) (by omega)]; exact e), c32_0]
      obtain ⟨s1, a1, a2, a3, a4⟩ := lo_71 (s0 := s0) (y := y) (by omega) (k := fun v4_7 s8 => f_X3_layOut_60 4 k n (nI y + 1) s8) g_N 0 s (Nat.zero_le _) (by unfold g_N; omega) L S (fun t ht => A t (by omega))
      rw [a4, nI_1]
      have e1 : (y + 1) * w = y * w + w := Nat.succ_mul y w
      exact ih (y + 1) s1 (by omega) (by omega) a2 a1 (fun t ht => a3 t (by omega))
theorem layOut_c {c : gS} (d1 : 1 ≤ w) (d2 : w ≤ 9) (d3 : 1 ≤ h) (d4 : h ≤ 9) (d5 : w * h ≤ 40) : ∃ c', Sm [4, 5, 6, 7, 8, 9, 10, 11] c c' ∧ Ld c' 4 w h ∧ c'.1 4 3 = nI 0 ∧ c'.1 4 4 = nI 4 ∧ (c'.1 4 5 = nI 2 ∧ c'.1 4 6 = nI 3 ∧ c'.1 4 7 = nI 3 ∧ c'.1 4 8 = nI 4) ∧ (∀ q, q < w * h → c'.1 7 q = nI 1 ∧ c'.1 8 q = nI 0 ∧ c'.1 9 q = nI 1) ∧ f_X3_layOut 4 (nI w) (nI h) c = some (none, c') := by
  have D : Dm w h := Or.inr ⟨d1, d2, d3, d4, d5⟩
  unfold f_X3_layOut f_X3_clear f_X3_setLikes
  simp only [gl_s, gb_vn]
  rw [if_neg (show ¬ nI w < 1 from fun z => by have := (nI_ltI (b := 1) (by omega) (by omega)).mp z; omega), if_neg (show ¬ 9 < nI w from fun z => by have := (nI_ltI (a := 9) (by omega) (by omega)).mp z; omega), if_neg (show ¬ nI h < 1 from fun z => by have := (nI_ltI (b := 1) (by omega) (by omega)).mp z; omega), if_pos (show nI h ≤ 9 from nI_le (b := 9) d4 (by omega)), pk_mul, if_pos (show nI (w * h) ≤ 40 from nI_le (b := 40) d5 (by omega))]
  generalize hz : g_si (g_si (g_si (g_si (g_si (g_si (g_si (g_si (g_si (g_si (g_si (g_si (g_si c 4 0 0) 4 1 0) 4 2 0) 4 3 (-1)) 4 4 4) 4 5 2) 4 6 3) 4 7 3) 4 8 4) 4 0 (nI w)) 4 1 (nI h)) 4 2 (nI (w * h))) 4 3 0 = z
  have zS : Sm [4] c z := by
    rw [← hz]
    exact ((((((((((((Sm.si (by simp)).tr (Sm.si (by simp))).tr (Sm.si (by simp))).tr (Sm.si (by simp))).tr (Sm.si (by simp))).tr (Sm.si (by simp))).tr (Sm.si (by simp))).tr (Sm.si (by simp))).tr (Sm.si (by simp))).tr (Sm.si (by simp))).tr (Sm.si (by simp))).tr (Sm.si (by simp))).tr (Sm.si (by simp))
  have z0 : z.1 4 0 = nI w := by rw [← hz]; simp [si1]
  have z1 : z.1 4 1 = nI h := by rw [← hz]; simp [si1]
  have z2 : z.1 4 2 = nI (w * h) := by rw [← hz]; simp [si1]
  have z3 : z.1 4 3 = nI 0 := by rw [← hz]; simp [si1]; rfl
  have z4 : z.1 4 4 = nI 4 := by rw [← hz]; simp [si1]; rfl
  have z5 : z.1 4 5 = nI 2 := by rw [← hz]; simp [si1]; rfl
  have z6 : z.1 4 6 = nI 3 := by rw [← hz]; simp [si1]; rfl
  have z7 : z.1 4 7 = nI 3 := by rw [← hz]; simp [si1]; rfl
  have z8 : z.1 4 8 = nI 4 := by rw [← hz]; simp [si1]; rfl
  obtain ⟨s, a1, a2, a3⟩ := lo_60 (w := w) (h := h) (s0 := z) (k := fun v3_9 s10 => (some (none, s10))) g_N 0 z (Nat.zero_le _) (by unfold g_N; omega) ⟨D, z0, z1, z2⟩ Sm.rf (fun t ht => absurd ht (by omega))
  rw [← c32_0] at a3
  rw [a3]
  have e4 : s.1 4 = z.1 4 := (a1 4 (by simp)).1
  refine ⟨s, (zS.mono (fun k hk => by simp at hk ⊢; omega)).tr (a1.mono (fun k hk => by simp at hk ⊢; omega)), ⟨D, by rw [e4]; exact z0, by rw [e4]; exact z1, by rw [e4]; exact z2, fun q hq => ?_⟩, by rw [e4]; exact z3, by rw [e4]; exact z4, ⟨by rw [e4]; exact z5, by rw [e4]; exact z6, by rw [e4]; exact z7, by rw [e4]; exact z8⟩, fun q hq => ?_, rfl⟩
  · obtain ⟨b1, b2, b3, b4, b5, b6⟩ := a2 q (by rw [Nat.mul_comm]; exact hq)
    exact ⟨b1, b2, b6.1, b6.2⟩
  · obtain ⟨b1, b2, b3, b4, b5, b6⟩ := a2 q (by rw [Nat.mul_comm]; exact hq)
    exact ⟨b3, b4, b5⟩
end LAYOUT2
