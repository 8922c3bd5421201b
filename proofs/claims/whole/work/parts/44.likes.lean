/-! The entry of the likes -/
section LIKES
variable {T : Nat → Int32} {len : Nat}
theorem lk_step {m : gS} {i n : Nat} {k : Int32 → gS → gR} (hi : i < 4) : f_X10_readsLikes_24 k (n + 1) (nI i) m = g_bind (f_X10_takes (nI 0) (nI 9) m) (g_ki (fun r4 s3 => (if r4 = 0 then (some (some (.int (0 : Int32)), s3)) else (g_let (g_si s3 17 i (s3.1 0 38)) (fun s5 => (f_X10_readsLikes_24 k n (nI (i + 1)) s5)))))) := by
  rw [f_X10_readsLikes_24.eq_2, if_neg (show ¬ (4 : Int32) ≤ nI i from fun z => by have := (nI_leI (a := 4) (by omega) (by omega)).mp z; omega)]
  simp only [g_ixn (show i < 4 from hi) (by omega), nI_clamp (show i < 2 ^ 31 by omega), nI_1]
  rfl
theorem lk_done {m : gS} {n : Nat} {k : Int32 → gS → gR} : f_X10_readsLikes_24 k (n + 1) (nI 4) m = k (nI 4) m := by
  rw [f_X10_readsLikes_24.eq_2, if_pos (show (4 : Int32) ≤ nI 4 by decide)]
theorem F1.tr {c c' c'' : gS} (a : F1 c c') (b : F1 c' c'') : F1 c c'' := ⟨a.1.tr b.1, fun j x y z => (b.2 j x y z).trans (a.2 j x y z)⟩
def N17 (m m' : gS) : Prop := (∀ r, r ≠ 0 → r ≠ 17 → m'.1 r = m.1 r) ∧ ∀ j, j ≠ 18 → j ≠ 19 → j ≠ 20 → j ≠ 21 → j ≠ 38 → m'.1 0 j = m.1 0 j
theorem N17.tr {m m' m'' : gS} (a : N17 m m') (b : N17 m' m'') : N17 m m'' := ⟨fun r x y => (b.1 r x y).trans (a.1 r x y), fun j x y z u v => (b.2 j x y z u v).trans (a.2 j x y z u v)⟩
theorem N17.si {m : gS} {j : Nat} {v : Int32} : N17 m (g_si m 17 j v) := ⟨fun r _ y => sir y, fun j _ _ _ _ _ => by rw [sir (by decide)]⟩
theorem N17.mk {m m' : gS} (a : N17 m m') : Mk m m' := Mk.p0' (fun r x y => a.1 r (by omega) (by omega)) (fun j x => a.2 j (by omega) (by omega) (by omega) (by omega) (by omega))
/-- one like -/
theorem SB.like {c m : gS} {p kd st en i : Nat} (s : SB c m T len p kd st en) (hi : i < 4) :
    (∃ c' m' x kd' st' en' p', F1 c c' ∧ N17 m m' ∧ x ≤ 9 ∧ m'.1 17 i = nI x ∧ (∀ j, j ≠ i → m'.1 17 j = m.1 17 j) ∧ SB c' m' T len p' kd' st' en' ∧ p < p' ∧ f_X5_readNumber (nI 0) (nI 9) c = some (some (.int (nI x)), c') ∧ ∀ n k, f_X10_readsLikes_24 k (n + 1) (nI i) m = f_X10_readsLikes_24 k n (nI (i + 1)) m') ∨
    (∃ c' m', PF c c' ∧ Mk m m' ∧ FL c' m' ∧ f_X5_readNumber (nI 0) (nI 9) c = some (some (.int (-1)), c') ∧ ∀ n k, f_X10_readsLikes_24 k (n + 1) (nI i) m = some (some (.int 0), m')) := by
  have o1 := s.2.2.2.2.1.1.1
  rcases s.num (lo := 0) (hi := 9) (by omega) (by omega) with ⟨c3, m3, x, kd3, st3, en3, f3, g5, g6, x1, x2, g7, sb3, lt3, e3, e4⟩ | ⟨c', m', p1, p1', p2, p3, p4, e3, e4⟩
  · refine Or.inl ⟨c3, g_si m3 17 i (nI x), x, kd3, st3, en3, en, f3, N17.tr ⟨fun r a _ => g5 r a, g6⟩ N17.si, x2, by rw [si_eq], fun j hj => by rw [si_nj hj, g5 17 (by decide)], sb3.mi (by decide) (by decide), by omega, e3, fun n k => ?_⟩
    rw [lk_step hi, e4, gb_i, if_neg (by decide), gl_s, g7]
  · refine Or.inr ⟨c', m', PF.f3 p1 p1', Mk.p0 p2 (fun j hj => p3 j (by omega)), p4, e3, fun n k => ?_⟩
    rw [lk_step hi, e4, gb_i, if_pos rfl]
theorem SA.likes {c m : gS} {kd st en : Nat} (sa : SA c m T len kd st en) :
    (∃ c' m' p' kd' st' en', ∃ l : Nat → Nat, SB c' m' T len p' kd' st' en' ∧ en < p' ∧ (∀ i, i < 4 → l i ≤ 9) ∧ Sm [1, 3, 4] c c' ∧ (∀ j, j ≠ 2 → j ≠ 3 → j ≠ 4 → c'.1 1 j = c.1 1 j) ∧ (∀ j, c'.1 3 j = if j = 8 then 1 else c.1 3 j) ∧ (∀ j, j < 5 → c'.1 4 j = c.1 4 j) ∧ (∀ i, i < 4 → c'.1 4 (5 + i) = nI (l i)) ∧ (∀ r, r ≠ 0 → r ≠ 17 → m'.1 r = m.1 r) ∧ (∀ j, j ≠ 18 → j ≠ 19 → j ≠ 20 → j ≠ 21 → j ≠ 38 → j ≠ 36 → m'.1 0 j = m.1 0 j) ∧ m'.1 0 36 = 1 ∧ (∀ i, i < 4 → m'.1 17 i = nI (l i)) ∧ f_X5_readLikes c = some (some (.int 1), c') ∧ mLik m = some (some (.int 1), m')) ∨
    (∃ c' m', PF c c' ∧ Mk m m' ∧ FL c' m' ∧ f_X5_readLikes c = some (some (.int 0), c') ∧ mLik m = some (some (.int 0), m')) := by
  obtain ⟨n0, hN⟩ : ∃ n0, g_N = n0 + 5 := ⟨g_N - 5, by unfold g_N; omega⟩
  obtain ⟨m0, kd0, st0, en0, g0, g0', sb⟩ := ((sa.ci (k := 3) (j := 8) (v := 1) (by decide) (by decide)).m0 (j := 36) (v := 1) (by decide) (by decide) (by decide) (by decide) (by decide)).go
  have o1 := sb.2.2.2.2.1.1.1
  have MK0 : Mk m m0 := Mk.p0' (fun r a b => by rw [g0.1 r (by omega), sir (by omega)]) (fun j a => by rw [g0.2 j (by omega) (by omega) (by omega) (by omega), si_nj (by omega)])
  have PF0 : PF c (g_si c 3 8 1) := PF.si (by decide) (by decide)
  unfold f_X5_readLikes mLik
  rw [gl_s, gl_s, g0', gb_v, hN, c32_0, show (9 : Int32) = nI 9 from rfl]
  have ge : ∀ x : Nat, x ≤ 9 → nI 0 ≤ nI x := fun x hx => nI_le (Nat.zero_le _) (by omega)
  have gn : ¬ nI 0 ≤ (-1 : Int32) := neg_nle (by decide) (by omega)
  rcases sb.like (i := 0) (by omega) with ⟨c1, m1, x0, kd1, st1, en1, p1, f1, h1, b1, r1, q1, s1, l1, e1, k1⟩ | ⟨c', m', a1, a2, a3, a4, a5⟩
  rotate_left
  · rw [a4, gb_i, if_neg gn, show n0 + 5 = (n0 + 4) + 1 from rfl, a5]
    exact Or.inr ⟨c', m', PF0.tr a1, MK0.tr a2, a3, rfl, rfl⟩
  rw [e1, gb_i, if_pos (ge x0 b1), show n0 + 5 = (n0 + 4) + 1 from rfl, k1]
  rcases s1.like (i := 1) (by omega) with ⟨c2, m2, x1, kd2, st2, en2, p2, f2, h2, b2, r2, q2, s2, l2, e2, k2⟩ | ⟨c', m', a1, a2, a3, a4, a5⟩
  rotate_left
  · rw [a4, gb_i, if_neg gn, show n0 + 4 = (n0 + 3) + 1 from rfl, a5]
    exact Or.inr ⟨c', m', (PF0.tr f1.pf).tr a1, (MK0.tr h1.mk).tr a2, a3, rfl, rfl⟩
  rw [e2, gb_i, if_pos (ge x1 b2), show n0 + 4 = (n0 + 3) + 1 from rfl, k2]
  rcases s2.like (i := 2) (by omega) with ⟨c3, m3, x2, kd3, st3, en3, p3, f3, h3, b3, r3, q3, s3, l3, e3, k3⟩ | ⟨c', m', a1, a2, a3, a4, a5⟩
  rotate_left
  · rw [a4, gb_i, if_neg gn, show n0 + 3 = (n0 + 2) + 1 from rfl, a5]
    exact Or.inr ⟨c', m', ((PF0.tr f1.pf).tr f2.pf).tr a1, ((MK0.tr h1.mk).tr h2.mk).tr a2, a3, rfl, rfl⟩
  rw [e3, gb_i, if_pos (ge x2 b3), show n0 + 3 = (n0 + 2) + 1 from rfl, k3]
  rcases s3.like (i := 3) (by omega) with ⟨c4, m4, x3, kd4, st4, en4, p4, f4, h4, b4, r4, q4, s4, l4, e4, k4⟩ | ⟨c', m', a1, a2, a3, a4, a5⟩
  rotate_left
  · rw [a4, gb_i, if_neg gn, show n0 + 2 = (n0 + 1) + 1 from rfl, a5]
    exact Or.inr ⟨c', m', (((PF0.tr f1.pf).tr f2.pf).tr f3.pf).tr a1, (((MK0.tr h1.mk).tr h2.mk).tr h3.mk).tr a2, a3, rfl, rfl⟩
  rw [e4, gb_i, if_pos (ge x3 b4), show n0 + 2 = (n0 + 1) + 1 from rfl, k4, lk_done]
  unfold f_X3_setLikes
  rw [gl_s, gl_s, gl_s, gl_s, gb_v]
  have FA : F1 (g_si c 3 8 1) c4 := ((f1.tr f2).tr f3).tr f4
  have HA : N17 m0 m4 := ((h1.tr h2).tr h3).tr h4
  have o4 := s4.2.2.2.2.1.1.1
  rcases ((((s4.ci (k := 4) (j := 5) (v := nI x0) (by decide) (by decide)).ci (k := 4) (j := 6) (v := nI x1) (by decide) (by decide)).ci (k := 4) (j := 7) (v := nI x2) (by decide) (by decide)).ci (k := 4) (j := 8) (v := nI x3) (by decide) (by decide)).stop with ⟨c5, m5, kd5, st5, en5, f5, g8, sb5, lt5, e5, e6⟩ | ⟨c', m', d1, d1', d2, d3, d4, e5, e6⟩
  · rw [e5, e6, gb_i, gb_i]
    have v17 : ∀ i, i < 4 → m5.1 17 i = nI (match i with | 0 => x0 | 1 => x1 | 2 => x2 | _ => x3) := fun i hi => by
      rw [g8.1 17 (by decide)]
      rcases (show i = 0 ∨ i = 1 ∨ i = 2 ∨ i = 3 by omega) with rfl | rfl | rfl | rfl
      · rw [q4 0 (by decide), q3 0 (by decide), q2 0 (by decide)]; exact r1
      · rw [q4 1 (by decide), q3 1 (by decide)]; exact r2
      · rw [q4 2 (by decide)]; exact r3
      · exact r4
    refine Or.inl ⟨c5, m5, en4, kd5, st5, en5, fun i => match i with | 0 => x0 | 1 => x1 | 2 => x2 | _ => x3, sb5, by omega, ?_, ?_, ?_, ?_, ?_, ?_, ?_, ?_, ?_, v17, rfl, rfl⟩
    · intro i hi
      rcases (show i = 0 ∨ i = 1 ∨ i = 2 ∨ i = 3 by omega) with rfl | rfl | rfl | rfl
      · exact b1
      · exact b2
      · exact b3
      · exact b4
    · exact ((((((Sm.si (by simp)).tr (FA.1.mono (fun k hk => by simp at hk ⊢; omega))).tr (Sm.si (by simp))).tr (Sm.si (by simp))).tr (Sm.si (by simp))).tr (Sm.si (by simp))).tr (f5.1.mono (fun k hk => by simp at hk ⊢; omega))
    · intro j a d z
      rw [f5.2 j a d z, sir (by decide), sir (by decide), sir (by decide), sir (by decide), FA.2 j a d z, sir (by decide)]
    · intro j
      rw [(f5.1 3 (by simp)).1, sir (by decide), sir (by decide), sir (by decide), sir (by decide), (FA.1 3 (by simp)).1, row_si]
    · intro j a
      rw [(f5.1 4 (by simp)).1, si_nj (by omega), si_nj (by omega), si_nj (by omega), si_nj (by omega), (FA.1 4 (by simp)).1, sir (by decide)]
    · intro i hi
      rw [(f5.1 4 (by simp)).1]
      rcases (show i = 0 ∨ i = 1 ∨ i = 2 ∨ i = 3 by omega) with rfl | rfl | rfl | rfl
      · rw [si_nj (by decide), si_nj (by decide), si_nj (by decide), si_eq]; rfl
      · rw [si_nj (by decide), si_nj (by decide), si_eq]; rfl
      · rw [si_nj (by decide), si_eq]; rfl
      · rw [si_eq]; rfl
    · intro r x y
      rw [g8.1 r x, HA.1 r x y, g0.1 r x, sir x]
    · intro j a1 a2 a3 a4 a5 a6
      rw [g8.2 j a1 a2 a3 a4, HA.2 j a1 a2 a3 a4 a5, g0.2 j a1 a2 a3 a4, si_nj a6]
    · rw [g8.2 36 (by decide) (by decide) (by decide) (by decide), HA.2 36 (by decide) (by decide) (by decide) (by decide) (by decide), g0.2 36 (by decide) (by decide) (by decide) (by decide), si_eq]
  · rw [e5, e6, gb_i, gb_i]
    refine Or.inr ⟨c', m', ?_, ?_, d4, rfl, rfl⟩
    · exact (((((PF0.tr FA.pf).tr (PF.si (by decide) (by decide))).tr (PF.si (by decide) (by decide))).tr (PF.si (by decide) (by decide))).tr (PF.si (by decide) (by decide))).tr (PF.f3 d1 d1')
    · exact (MK0.tr HA.mk).tr (Mk.p0 d2 (fun j hj => d3 j (by omega)))
end LIKES
