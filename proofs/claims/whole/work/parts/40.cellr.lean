/-! A cell of the text -/
section CELLR
variable {T : Nat → Int32} {len : Nat}
/-- a number that the reference sees and does not pass -/
theorem SB.see {c m : gS} {p kd st en hi : Nat} (v : Int32) (s : SB c m T len p kd st en) (h99 : hi ≤ 99) (h23 : m.1 0 23 - 1 = nI hi) :
    (∃ c' y, F1 c c' ∧ y ≤ hi ∧ SA c' m T len kd st en ∧ st < en ∧ f_X5_readNumber (nI 0) (nI hi) c = some (some (.int (nI y)), c') ∧ f_X10_seesY v m = some (some (.int 1), g_si m 0 39 (m.1 0 22 * nI y + v))) ∨
    (∃ c' m', Sm [1, 3] c c' ∧ (∀ j, j ≠ 2 → j ≠ 3 → j ≠ 4 → c'.1 1 j = c.1 1 j) ∧ (∀ r, r ≠ 0 → m'.1 r = m.1 r) ∧ (∀ j, j ≠ 37 → m'.1 0 j = m.1 0 j) ∧ FL c' m' ∧ f_X5_readNumber (nI 0) (nI hi) c = some (some (.int (-1)), c') ∧ f_X10_seesY v m = some (some (.int 0), m')) := by
  obtain ⟨c1, f1, n1, sa⟩ := s.nt
  have sa' := sa
  obtain ⟨a1, a2, a3, a4, a5, a6, a7, a8, a9, a10⟩ := sa'
  have hl := a1.1
  unfold f_X5_readNumber f_X10_seesY
  rw [n1, gb_v, a3, a6.2.2.1]
  have bad : ∀ f, 1 ≤ f → f ≤ 4 → ∃ c' m', Sm [1, 3] c c' ∧ (∀ j, j ≠ 2 → j ≠ 3 → j ≠ 4 → c'.1 1 j = c.1 1 j) ∧ (∀ r, r ≠ 0 → m'.1 r = m.1 r) ∧ (∀ j, j ≠ 37 → m'.1 0 j = m.1 0 j) ∧ FL c' m' ∧ f_X5_fail (nI f) c1 = some (some (.int 0), c') ∧ f_X10_faults (nI f) m = some (some (.int 0), m') := fun f x y => by
    obtain ⟨c', m', b1, b2, b3, b4, b5, b6⟩ := sa.fail f x y
    exact ⟨c', m', (f1.1.mono (fun k hk => by simp at hk ⊢; omega)).tr (b1.mono (fun k hk => by simp at hk ⊢; omega)), fun j x y z => by rw [(b1 1 (by simp)).1]; exact f1.2 j x y z, b2, b3, b4, b5, b6⟩
  by_cases e : kd = 2
  · subst e
    rw [if_pos (show nI 2 = 2 from rfl), if_pos (show nI 2 = 2 from rfl), va_c a1 a3 a4 a5 a9 a8, gb_i, a6.2.2.2 rfl, h23, show (0 : Int64) = (nI 0).toInt64 by decide, in_g, gb_i]
    have cs : (∃ x, 0 ≤ x ∧ x ≤ hi ∧ (if en - st ≤ 3 then vl T st (en - st) else -1) = nI x ∧ vk T st en = nI x) ∨ (¬ (nI 0 ≤ (if en - st ≤ 3 then vl T st (en - st) else -1) ∧ (if en - st ≤ 3 then vl T st (en - st) else -1) ≤ nI hi) ∧ ¬ (nI 0 ≤ vk T st en ∧ vk T st en ≤ nI hi)) := by
      unfold vk
      by_cases z : en - st ≤ 3
      · rw [if_pos z, if_pos z]
        rcases rng2 (vl T st (en - st)) 0 hi (by omega) (by omega) with ⟨x, x1, x2, x3⟩ | ⟨x1, x2⟩
        · exact Or.inl ⟨x, x1, x2, x3, x3⟩
        · exact Or.inr ⟨x2, x2⟩
      · rw [if_neg z, if_neg z]
        refine Or.inr ⟨fun q => absurd q.1 (neg_nle (by decide) (by omega)), fun q => ?_⟩
        have := (nI_leI (a := 1000) (b := hi) (by omega) (by omega)).mp q.2
        omega
    generalize (if en - st ≤ 3 then vl T st (en - st) else -1) = u at cs ⊢
    generalize hy : vk T st en = y at cs ⊢
    rcases cs with ⟨x, x1, x2, rfl, rfl⟩ | ⟨x1, x2⟩
    · refine Or.inl ?_
      rw [if_neg (by rw [nI_ltI (by omega) (by omega)]; omega), if_pos (nI_le x2 (by omega)), if_pos (⟨nI_le x1 (by omega), nI_le x2 (by omega)⟩ : nI 0 ≤ nI x ∧ nI x ≤ nI hi), if_neg (by decide), gl_s, a6.2.2.2 rfl, hy]
      exact ⟨c1, x, f1, x2, sa, a10 (by decide), rfl, rfl⟩
    · refine Or.inr ?_
      obtain ⟨c', m', b1, b1', b2, b3, b4, b5, b6⟩ := bad 2 (by omega) (by omega)
      rw [if_neg x2, if_pos rfl, show (2 : Int32) = nI 2 from rfl, b5, b6, gb_i, gb_i]
      refine ⟨c', m', b1, b1', b2, b3, b4, ?_, rfl⟩
      by_cases z : u < nI 0
      · rw [if_pos z]
      · rw [if_neg z, if_neg (fun q => x1 ⟨Int32.not_lt.mp z, q⟩)]
  · refine Or.inr ?_
    obtain ⟨c', m', b1, b1', b2, b3, b4, b5, b6⟩ := bad 1 (by omega) (by omega)
    have e2 : ¬ nI kd = 2 := fun z => e ((nI_eq (b := 2) (by omega) (by omega)).mp z)
    rw [if_neg e2, if_neg e2, show (1 : Int32) = nI 1 from rfl, b5, b6, gb_i, gb_i]
    exact ⟨c', m', b1, b1', b2, b3, b4, rfl, rfl⟩
/-- what reading leaves of the class and of the reference -/
def PF (c c' : gS) : Prop := Sm [1, 3, 4, 5, 6, 7, 8, 9, 10, 11, 12, 13] c c' ∧ c'.1 1 1 = c.1 1 1
theorem PF.tr {c c' c'' : gS} (a : PF c c') (b : PF c' c'') : PF c c'' := ⟨a.1.tr b.1, b.2.trans a.2⟩
theorem F1.pf {c c' : gS} (f : F1 c c') : PF c c' := ⟨f.1.mono (fun k hk => by simp at hk ⊢; omega), f.2 1 (by decide) (by decide) (by decide)⟩
theorem PF.f3 {c c' : gS} (h : Sm [1, 3] c c') (h1 : ∀ j, j ≠ 2 → j ≠ 3 → j ≠ 4 → c'.1 1 j = c.1 1 j) : PF c c' := ⟨h.mono (fun k hk => by simp at hk ⊢; omega), h1 1 (by decide) (by decide) (by decide)⟩
/-- the reference's state as far as reading writes it -/
theorem Mk.p0 {m m' : gS} (h : ∀ r, r ≠ 0 → m'.1 r = m.1 r) (h0 : ∀ j, j ≤ 17 → m'.1 0 j = m.1 0 j) : Mk m m' := ⟨⟨h0 3 (by decide), h0 4 (by decide), h0 7 (by decide), h0 11 (by decide), h0 14 (by decide), h0 16 (by decide), h0 17 (by decide)⟩, fun k a _ => h k (by omega)⟩
/-- a cell: the class's and the reference's -/
theorem SB.cell {c m : gS} {p kd st en w h : Nat} (s : SB c m T len p kd st en) (L : Ld c 4 w h) (h22 : m.1 0 22 = nI w) (h23 : m.1 0 23 = nI h) (hn : 0 < w * h) :
    (∃ c' m' q kd' st' en', F1 c c' ∧ (∀ r, r ≠ 0 → m'.1 r = m.1 r) ∧ (∀ j, j ≠ 18 → j ≠ 19 → j ≠ 20 → j ≠ 21 → j ≠ 38 → j ≠ 39 → m'.1 0 j = m.1 0 j) ∧ q < w * h ∧ m'.1 0 39 = nI q ∧ SA c' m' T len kd' st' en' ∧ p < en' ∧ f_X5_readCell c = some (some (.int (nI q)), c') ∧ ∀ K : gS → gR, (g_bind (f_X10_takesX m) (g_ki (fun r4 s3 => (if r4 = 0 then (some (some (.int (0 : Int32)), s3)) else (g_bind (f_X10_seesY (s3.1 0 38) s3) (g_ki (fun r6 s5 => (if r6 = 0 then (some (some (.int (0 : Int32)), s5)) else K s5)))))))) = K m') ∨
    (∃ c' m', PF c c' ∧ Mk m m' ∧ FL c' m' ∧ f_X5_readCell c = some (some (.int (-1)), c') ∧ ∀ K : gS → gR, (g_bind (f_X10_takesX m) (g_ki (fun r4 s3 => (if r4 = 0 then (some (some (.int (0 : Int32)), s3)) else (g_bind (f_X10_seesY (s3.1 0 38) s3) (g_ki (fun r6 s5 => (if r6 = 0 then (some (some (.int (0 : Int32)), s5)) else K s5)))))))) = some (some (.int 0), m')) := by
  obtain ⟨d1, d2, d3, d4⟩ : 1 ≤ w ∧ w ≤ 9 ∧ 1 ≤ h ∧ h ≤ 9 := by
    rcases L.1 with ⟨x, y⟩ | ⟨x, y, z, u, _⟩
    · rw [x] at hn; omega
    · exact ⟨x, y, z, u⟩
  have hw1 : c.1 4 0 - 1 = nI (w - 1) := by rw [L.2.1, c32_1, pk_sub (by omega)]
  have hw2 : m.1 0 22 - 1 = nI (w - 1) := by rw [h22, c32_1, pk_sub (by omega)]
  unfold f_X5_readCell f_X10_takesX
  rw [hw1, hw2, c32_0]
  rcases s.num (lo := 0) (hi := w - 1) (by omega) (by omega) with ⟨c1, m1, x, kd1, st1, en1, f1, g1, g2, x1, x2, g3, s1, lt1, e1, e2⟩ | ⟨c', m', b1, b2, b3, b4, b5, e1, e2⟩
  · have L1 : Ld c1 4 w h := L.congr (fun k a b => (f1.1 k (by simp; omega)).1)
    have hh1 : c1.1 4 1 - 1 = nI (h - 1) := by rw [L1.2.2.1, c32_1, pk_sub (by omega)]
    have hh2 : m1.1 0 23 - 1 = nI (h - 1) := by rw [g2 23 (by decide) (by decide) (by decide) (by decide) (by decide), h23, c32_1, pk_sub (by omega)]
    rw [e1, e2, gb_i, gb_i, if_pos (nI_le (Nat.zero_le _) (by omega)), hh1]
    have z01 : ∀ s : gS, g_01 1 (some (some (.int 1), s)) = some (some (.int 1), s) := fun s => rfl
    rw [z01]
    have hpe : p ≤ st := s.2.2.2.2.1.1.1
    rcases s1.see (m1.1 0 38) (hi := h - 1) (by omega) hh2 with ⟨c2, y, f2, y1, sa, lt2, e3, e4⟩ | ⟨c', m', b1, b2, b3, b4, b5, e3, e4⟩
    · refine Or.inl ?_
      have L2 : Ld c2 4 w h := L1.congr (fun k a b => (f2.1 k (by simp; omega)).1)
      obtain ⟨i1, i2, i3⟩ := inR_mk (w := w) (h := h) (i := x) (j := y) (by omega) (by omega)
      have hq : m1.1 0 22 * nI y + m1.1 0 38 = nI (y * w + x) := by rw [g2 22 (by decide) (by decide) (by decide) (by decide) (by decide), h22, g3, pk_mul, nI_add, Nat.mul_comm]
      have hca : f_X3_cellAt 4 (nI x) (nI y) c2 = some (some (.int (nI (y * w + x))), c2) := by
        have := cellAt_in L2 i1
        rw [i2, i3] at this
        exact this
      have en1le : en1 ≤ st1 ∨ st1 ≤ en1 := by omega
      have hst1 : en ≤ st1 := s1.2.2.2.2.1.1.1
      obtain ⟨a1, a2, a3, a4, a5, a6, a7, a8, a9, a10⟩ := sa
      rw [e3, gb_i, if_pos (nI_le (Nat.zero_le _) (by omega)), hca, gb_i]
      refine ⟨c2, g_si m1 0 39 (nI (y * w + x)), y * w + x, kd1, st1, en1, ⟨f1.1.tr f2.1, fun j a b d => (f2.2 j a b d).trans (f1.2 j a b d)⟩, fun r hr => (sir hr).trans (g1 r hr), fun j a b d e u z => by rw [si_nj z]; exact g2 j a b d e u, i1, by rw [si_eq], ⟨a1, a2.si (by decide), a3, a4, a5, ⟨by rw [si_nj (by decide)]; exact a6.1, by rw [si_nj (by decide)]; exact a6.2.1, by rw [si_nj (by decide)]; exact a6.2.2.1, fun z => by rw [si_nj (by decide)]; exact a6.2.2.2 z⟩, a7, a8, a9, a10⟩, by omega, rfl, fun K => ?_⟩
      rw [gb_i, if_neg (by decide), e4, gb_i, if_neg (by decide), hq]
    · refine Or.inr ⟨c', m', f1.pf.tr (PF.f3 b1 b2), ?_, b5, ?_, fun K => ?_⟩
      · exact Mk.p0 (fun r hr => (b3 r hr).trans (g1 r hr)) (fun j hj => (b4 j (by omega)).trans (g2 j (by omega) (by omega) (by omega) (by omega) (by omega)))
      · rw [e3, gb_i, if_neg (neg_nle (by decide) (by omega))]
      · rw [gb_i, if_neg (by decide), e4, gb_i, if_pos (show (0 : Int32) = nI 0 from rfl)]
  · refine Or.inr ⟨c', m', PF.f3 b1 b2, Mk.p0 b3 (fun j hj => b4 j (by omega)), b5, ?_, fun K => ?_⟩
    · rw [e1, gb_i, if_neg (neg_nle (by decide) (by omega))]
    · rw [e2, gb_i]; rfl
end CELLR
