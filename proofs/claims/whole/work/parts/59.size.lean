/-! The size of the meadow -/
section SIZE
variable {T : Nat → Int32} {len : Nat}
theorem SB.numx {c m : gS} {p kd st en lo hi : Nat} (s : SB c m T len p kd st en) (h99 : hi ≤ 99) (hlo : lo ≤ hi) :
    (∃ c' m' x kd' st' en', F1 c c' ∧ (∀ r, r ≠ 0 → m'.1 r = m.1 r) ∧ (∀ j, j ≠ 18 → j ≠ 19 → j ≠ 20 → j ≠ 21 → j ≠ 38 → m'.1 0 j = m.1 0 j) ∧ lo ≤ x ∧ x ≤ hi ∧ m'.1 0 38 = nI x ∧ SB c' m' T len en kd' st' en' ∧ st < en ∧ SA c' m T len kd st en ∧ m.1 0 20 = 2 ∧ m.1 0 21 = nI x ∧ f_X5_readNumber (nI lo) (nI hi) c = some (some (.int (nI x)), c') ∧ f_X10_takes (nI lo) (nI hi) m = some (some (.int 1), m')) ∨
    (∃ c' m', Sm [1, 3] c c' ∧ (∀ j, j ≠ 2 → j ≠ 3 → j ≠ 4 → c'.1 1 j = c.1 1 j) ∧ (∀ r, r ≠ 0 → m'.1 r = m.1 r) ∧ (∀ j, j ≠ 37 → m'.1 0 j = m.1 0 j) ∧ FL c' m' ∧ ¬ (m.1 0 20 = 2 ∧ nI lo ≤ m.1 0 21 ∧ m.1 0 21 ≤ nI hi) ∧ f_X5_readNumber (nI lo) (nI hi) c = some (some (.int (-1)), c') ∧ f_X10_takes (nI lo) (nI hi) m = some (some (.int 0), m')) := by
  obtain ⟨c1, f1, n1, sa⟩ := s.nt
  have sa' := sa
  obtain ⟨a1, a2, a3, a4, a5, a6, a7, a8, a9, a10⟩ := sa'
  have hl := a1.1
  unfold f_X5_readNumber f_X10_takes
  rw [n1, gb_v, a3, a6.2.2.1]
  have bad : ∀ f, 1 ≤ f → f ≤ 4 → ∃ c' m', Sm [1, 3] c c' ∧ (∀ j, j ≠ 2 → j ≠ 3 → j ≠ 4 → c'.1 1 j = c.1 1 j) ∧ (∀ r, r ≠ 0 → m'.1 r = m.1 r) ∧ (∀ j, j ≠ 37 → m'.1 0 j = m.1 0 j) ∧ FL c' m' ∧ f_X5_fail (nI f) c1 = some (some (.int 0), c') ∧ f_X10_faults (nI f) m = some (some (.int 0), m') := fun f x y => by
    obtain ⟨c', m', b1, b2, b3, b4, b5, b6⟩ := sa.fail f x y
    exact ⟨c', m', (f1.1.mono (fun k hk => by simp at hk ⊢; omega)).tr (b1.mono (fun k hk => by simp at hk ⊢; omega)), fun j x y z => by rw [(b1 1 (by simp)).1]; exact f1.2 j x y z, b2, b3, b4, b5, b6⟩
  by_cases e : kd = 2
  · subst e
    rw [if_pos (show nI 2 = 2 from rfl), if_pos (show nI 2 = 2 from rfl), va_c a1 a3 a4 a5 a9 a8, gb_i, a6.2.2.2 rfl, in_g, gb_i]
    have key : ∀ (v y : Int32), (nI lo ≤ y ∧ y ≤ nI hi ↔ nI lo ≤ v ∧ v ≤ nI hi) → ((nI lo ≤ y ∧ y ≤ nI hi) → v = y) → v = (if en - st ≤ 3 then vl T st (en - st) else -1) → y = vk T st en → (∃ x, lo ≤ x ∧ x ≤ hi ∧ v = nI x ∧ y = nI x) ∨ (¬ (nI lo ≤ v ∧ v ≤ nI hi) ∧ ¬ (nI lo ≤ y ∧ y ≤ nI hi)) := fun v y h1 h2 h3 h4 => by
      rcases rng2 y lo hi (by omega) hlo with ⟨x, x1, x2, rfl⟩ | ⟨x1, x2⟩
      · exact Or.inl ⟨x, x1, x2, h2 ⟨nI_le x1 (by omega), nI_le x2 (by omega)⟩, rfl⟩
      · exact Or.inr ⟨fun z => x2 (h1.mpr z), x2⟩
    have cs : (∃ x, lo ≤ x ∧ x ≤ hi ∧ (if en - st ≤ 3 then vl T st (en - st) else -1) = nI x ∧ vk T st en = nI x) ∨ (¬ (nI lo ≤ (if en - st ≤ 3 then vl T st (en - st) else -1) ∧ (if en - st ≤ 3 then vl T st (en - st) else -1) ≤ nI hi) ∧ ¬ (nI lo ≤ vk T st en ∧ vk T st en ≤ nI hi)) := by
      refine key _ _ ?_ ?_ rfl rfl
      · unfold vk
        by_cases z : en - st ≤ 3
        · rw [if_pos z, if_pos z]
        · rw [if_neg z, if_neg z]
          refine ⟨fun q => ?_, fun q => absurd q.1 (neg_nle (by decide) (by omega))⟩
          have := (nI_leI (a := 1000) (b := hi) (by omega) (by omega)).mp q.2
          omega
      · unfold vk
        by_cases z : en - st ≤ 3
        · rw [if_pos z, if_pos z]; exact fun _ => rfl
        · rw [if_neg z, if_neg z]
          intro q
          have := (nI_leI (a := 1000) (b := hi) (by omega) (by omega)).mp q.2
          omega
    generalize (if en - st ≤ 3 then vl T st (en - st) else -1) = v at cs ⊢
    generalize hy : vk T st en = y at cs ⊢
    rcases cs with ⟨x, x1, x2, rfl, rfl⟩ | ⟨x1, x2⟩
    · refine Or.inl ?_
      rw [if_neg (by rw [nI_ltI (by omega) (by omega)]; omega), if_pos (nI_le x2 (by omega)), if_pos (⟨nI_le x1 (by omega), nI_le x2 (by omega)⟩ : nI lo ≤ nI x ∧ nI x ≤ nI hi), if_neg (by decide), gl_s, a6.2.2.2 rfl, hy]
      have sa2 : SA c1 (g_si m 0 38 (nI x)) T len 2 st en := ⟨a1, a2.si (by decide), a3, a4, a5, ⟨by rw [si_nj (by decide)]; exact a6.1, by rw [si_nj (by decide)]; exact a6.2.1, by rw [si_nj (by decide)]; exact a6.2.2.1, fun z => by rw [si_nj (by decide)]; exact a6.2.2.2 z⟩, a7, a8, a9, a10⟩
      obtain ⟨m', kd', st', en', g1, g2, g3⟩ := sa2.go
      rw [g2, gb_v]
      exact ⟨c1, m', x, kd', st', en', f1, fun r hr => by rw [g1.1 r hr, sir hr], fun j x y z u v => by rw [g1.2 j x y z u, si_nj v], x1, x2, by rw [g1.2 38 (by decide) (by decide) (by decide) (by decide), si_eq], g3, a10 (by decide), sa, rfl, rfl, rfl, rfl⟩
    · refine Or.inr ?_
      obtain ⟨c', m', b1, b1', b2, b3, b4, b5, b6⟩ := bad 2 (by omega) (by omega)
      rw [if_neg x2, if_pos rfl, show (2 : Int32) = nI 2 from rfl, b5, b6, gb_i, gb_i]
      refine ⟨c', m', b1, b1', b2, b3, b4, fun z => x2 z.2, ?_, rfl⟩
      by_cases z : v < nI lo
      · rw [if_pos z]
      · rw [if_neg z, if_neg (fun u => x1 ⟨Int32.not_lt.mp z, u⟩)]
  · refine Or.inr ?_
    obtain ⟨c', m', b1, b1', b2, b3, b4, b5, b6⟩ := bad 1 (by omega) (by omega)
    have e2 : ¬ nI kd = 2 := fun z => e ((nI_eq (b := 2) (by omega) (by omega)).mp z)
    rw [if_neg e2, if_neg e2, show (1 : Int32) = nI 1 from rfl, b5, b6, gb_i, gb_i]
    exact ⟨c', m', b1, b1', b2, b3, b4, fun z => e2 z.1, rfl, rfl⟩
/-- a draft with nothing in it -/
def D0 (c m : gS) : Prop := (∀ j, 4 ≤ j → j ≤ 9 → c.1 3 j = 0) ∧ c.1 3 10 = -1 ∧ (∀ q, q < 40 → c.1 12 q = 0 ∧ c.1 13 q = 0) ∧ m.1 0 29 = nI 0 ∧ m.1 0 30 = nI 4 ∧ (m.1 17 0 = nI 2 ∧ m.1 17 1 = nI 3 ∧ m.1 17 2 = nI 3 ∧ m.1 17 3 = nI 4) ∧ (∀ j, 32 ≤ j → j ≤ 37 → m.1 0 j = 0) ∧ (∀ q, q < 40 → m.1 12 q = 1 ∧ m.1 13 q = 1 ∧ m.1 14 q = 0 ∧ m.1 15 q = 0 ∧ m.1 16 q = 0)
theorem SB.cg {c c' m : gS} {p kd st en : Nat} (s : SB c m T len p kd st en) (h1 : c'.1 1 = c.1 1) (h2 : c'.1 2 = c.1 2) : SB c' m T len p kd st en := by
  unfold SB TC at *
  rw [h1, h2]; exact s
def lk0 : Nat → Nat := fun i => match i with | 0 => 2 | 1 => 3 | 2 => 3 | _ => 4
theorem D0.dd {c m c' m' : gS} {w h : Nat} (D : D0 c m) (hn : 0 < w * h) (hn40 : w * h ≤ 40) (L : Ld c' 4 w h) (h22 : m'.1 0 22 = nI w) (h23 : m'.1 0 23 = nI h) (c3 : c'.1 4 3 = nI 0) (c4 : c'.1 4 4 = nI 4) (cl : c'.1 4 5 = nI 2 ∧ c'.1 4 6 = nI 3 ∧ c'.1 4 7 = nI 3 ∧ c'.1 4 8 = nI 4) (cq : ∀ q, q < w * h → c'.1 7 q = nI 1 ∧ c'.1 8 q = nI 0 ∧ c'.1 9 q = nI 1) (r3 : c'.1 3 = c.1 3) (r12 : c'.1 12 = c.1 12) (r13 : c'.1 13 = c.1 13) (mr : ∀ r, r ≠ 0 → m'.1 r = m.1 r) (m0 : ∀ j, 29 ≤ j → j ≤ 37 → m'.1 0 j = m.1 0 j) : DD c' m' w h := by
  obtain ⟨d1, d2, d3, d4, d5, d6, d7, d8⟩ := D
  refine ⟨4, 0, 0, 0, 0, lk0, fun _ => 0, fun _ => 1, fun _ => 1, L, ⟨h22, h23⟩, ⟨c4, by rw [m0 30 (by omega) (by omega)]; exact d5, by omega, by omega⟩, ⟨c3, by rw [m0 29 (by omega) (by omega)]; exact d4, hn⟩, fun i hi => ?_, fun q hq => ⟨(cq q hq).2.1, by rw [mr 14 (by decide)]; exact (d8 q (by omega)).2.2.1, by show 0 < 8; omega⟩, fun q hq => ⟨(cq q hq).1, by rw [mr 12 (by decide)]; exact (d8 q (by omega)).1, by show 1 ≤ 9; omega⟩, fun q hq => ⟨(cq q hq).2.2, by rw [mr 13 (by decide)]; exact (d8 q (by omega)).2.1, by show 1 ≤ 99; omega⟩, fun q hq => ?_, fun q hq => ?_, ⟨?_, ?_, by omega⟩, ⟨?_, ?_, by omega⟩, ⟨?_, ?_, by omega⟩, ⟨?_, ?_⟩, ⟨?_, ?_, ?_⟩, hn⟩
  · rw [mr 17 (by decide)]
    rcases (show i = 0 ∨ i = 1 ∨ i = 2 ∨ i = 3 by omega) with rfl | rfl | rfl | rfl
    · exact ⟨cl.1, d6.1, by decide⟩
    · exact ⟨cl.2.1, d6.2.1, by decide⟩
    · exact ⟨cl.2.2.1, d6.2.2.1, by decide⟩
    · exact ⟨cl.2.2.2, d6.2.2.2, by decide⟩
  · rw [r12, mr 15 (by decide), (d3 q (by omega)).1, (d8 q (by omega)).2.2.2.1]
  · rw [r13, mr 16 (by decide), (d3 q (by omega)).2, (d8 q (by omega)).2.2.2.2]
  · rw [r3, d1 4 (by omega) (by omega)]; rfl
  · rw [m0 32 (by omega) (by omega), d7 32 (by omega) (by omega)]; rfl
  · rw [r3, d1 5 (by omega) (by omega)]; rfl
  · rw [m0 34 (by omega) (by omega), d7 34 (by omega) (by omega)]; rfl
  · rw [r3, d1 6 (by omega) (by omega)]; rfl
  · rw [m0 33 (by omega) (by omega), d7 33 (by omega) (by omega)]; rfl
  · rw [r3, m0 35 (by omega) (by omega), d1 7 (by omega) (by omega), d7 35 (by omega) (by omega)]
  · rw [r3, m0 36 (by omega) (by omega), d1 8 (by omega) (by omega), d7 36 (by omega) (by omega)]
  · rw [r3, d1 9 (by omega) (by omega)]
  · rw [m0 37 (by omega) (by omega), d7 37 (by omega) (by omega)]
  · rw [r3, d2]
theorem size_o {c m : gS} {kd st en : Nat} (sa : SA c m T len kd st en) (D : D0 c m) : ∃ w h, Out c m T len en w h (f_X5_readSize c) (f_X10_readsMeadow m) := by
  have sa' := sa
  obtain ⟨x1, x2, x3, x4, x5, x6, x7, x8, x9, x10⟩ := sa'
  unfold f_X5_readSize f_X10_readsMeadow
  obtain ⟨r, a1, a2, a3⟩ := sa.wd wn0 (iw_m6 (v1 := 109) (v2 := 101) (v3 := 97) (v4 := 100) (v5 := 111) (v6 := 119) (by decide) (by decide) (by decide) x2 x6 x7 x8 x9)
  rw [a2, a3, gb_i, gb_i]
  rcases a1 with rfl | rfl
  · rw [i00, i00]
    exact ⟨0, 0, sa.fl1 (f := 1) (by omega) (by omega)⟩
  rw [i10, i10]
  obtain ⟨m0, kd0, st0, en0, g0, g0', sb⟩ := sa.go
  rw [g0', gb_v]
  have MK0 : Mk m m0 := Mk.p0 g0.1 (fun j hj => g0.2 j (by omega) (by omega) (by omega) (by omega))
  have o0 := sb.2.2.2.2.1.1.1
  rw [show (9 : Int32) = nI 9 from rfl, c32_1]
  rcases sb.num (lo := 1) (hi := 9) (by omega) (by omega) with ⟨c1, m1, w, kd1, st1, en1, f1, g1, g2, w1, w2, g3, s1, lt1, e1, e2⟩ | ⟨c', m', p1, p1', p2, p3, p4, e1, e2⟩
  rotate_left
  · rw [e1, e2, gb_i, gb_i, if_neg (show ¬ (0 : Int32) ≤ -1 by decide), i00]
    exact ⟨0, 0, Or.inr ⟨c', m', PF.f3 p1 p1', MK0.tr (Mk.p0 p2 (fun j hj => p3 j (by omega))), p4, rfl, rfl⟩⟩
  rw [e1, e2, gb_i, gb_i, if_pos (show (0 : Int32) ≤ nI w from nI_le (a := 0) (Nat.zero_le _) (by omega)), i10, gl_s, g3]
  have MK1 : Mk m (g_si m1 0 22 (nI w)) := MK0.tr (Mk.p0 (fun r hr => (sir hr).trans (g1 r hr)) (fun j hj => by rw [si_nj (by omega)]; exact g2 j (by omega) (by omega) (by omega) (by omega) (by omega)))
  have o1 := s1.2.2.2.2.1.1.1
  have s1' : SB c1 (g_si m1 0 22 (nI w)) T len en0 kd1 st1 en1 := s1.m0 (by decide) (by decide) (by decide) (by decide) (by decide)
  have h22 : (g_si m1 0 22 (nI w)).1 0 22 = nI w := si_eq
  have hr1 : ∀ r, r ≠ 0 → (g_si m1 0 22 (nI w)).1 r = m.1 r := fun r hr => ((sir hr).trans (g1 r hr)).trans (g0.1 r hr)
  have h01 : ∀ j, j ≠ 18 → j ≠ 19 → j ≠ 20 → j ≠ 21 → j ≠ 38 → j ≠ 22 → (g_si m1 0 22 (nI w)).1 0 j = m.1 0 j := fun j z1 z2 z3 z4 z5 z6 => by rw [si_nj z6, g2 j z1 z2 z3 z4 z5, g0.2 j z1 z2 z3 z4]
  generalize hz : g_si m1 0 22 (nI w) = z at s1' MK1 h22 hr1 h01 ⊢
  rcases s1'.numx (lo := 1) (hi := 9) (by omega) (by omega) with ⟨c2, m2, h, kd2, st2, en2, f2, g4, g5, h1, h2, g6, s2, lt2, sa2, t20, t21, e3, e4⟩ | ⟨c', m', p1, p1', p2, p3, p4, nt, e3, e4⟩
  rotate_left
  · rw [e3, gb_i, if_neg (show ¬ (0 : Int32) ≤ -1 by decide)]
    refine ⟨0, 0, Or.inr ⟨c', m', f1.pf.tr (PF.f3 p1 p1'), MK1.tr (Mk.p0 p2 (fun j hj => p3 j (by omega))), p4, rfl, ?_⟩⟩
    by_cases t20 : z.1 0 20 = 2
    · rw [if_pos t20, show (1 : Int64) = (nI 1).toInt64 by decide, show (9 : Int64) = (nI 9).toInt64 by decide, in_g, gb_i, if_neg (show ¬ (nI 1 ≤ z.1 0 21 ∧ z.1 0 21 ≤ nI 9) from fun y => nt ⟨t20, y⟩), i00, e4, gb_i, i00]
    · rw [if_neg t20, e4, gb_i, i00]
  rw [e3, gb_i, if_pos (show (0 : Int32) ≤ nI h from nI_le (a := 0) (Nat.zero_le _) (by omega)), if_pos t20, show (1 : Int64) = (nI 1).toInt64 by decide, show (9 : Int64) = (nI 9).toInt64 by decide, in_g, gb_i, t21, if_pos (⟨nI_le h1 (by omega), nI_le h2 (by omega)⟩ : nI 1 ≤ nI h ∧ nI h ≤ nI 9), i10, h22, pk_mul]
  have hwh : w * h ≤ 81 := Nat.mul_le_mul w2 h2
  by_cases e : w * h ≤ 40
  rotate_left
  · rw [if_neg (show ¬ nI (w * h) ≤ 40 from fun y => by have := (nI_leI (b := 40) (by omega) (by omega)).mp y; omega), if_neg (show ¬ nI (w * h) ≤ 40 from fun y => by have := (nI_leI (b := 40) (by omega) (by omega)).mp y; omega)]
    obtain ⟨c', m', p1, p2, p3, p4, p5, p6⟩ := sa2.fail 2 (by omega) (by omega)
    rw [show (2 : Int32) = nI 2 from rfl, p5, p6, gb_i, gb_i]
    exact ⟨0, 0, Or.inr ⟨c', m', (f1.pf.tr f2.pf).tr (PF.f3 (p1.mono (fun k hk => by simp at hk ⊢; omega)) (fun j _ _ _ => by rw [(p1 1 (by simp)).1])), MK1.tr (Mk.p0 p2 (fun j hj => p3 j (by omega))), p4, rfl, rfl⟩⟩
  rw [if_pos (show nI (w * h) ≤ 40 from nI_le (b := 40) e (by omega)), if_pos (show nI (w * h) ≤ 40 from nI_le (b := 40) e (by omega)), e4, gb_i, i10, gl_s, g6]
  obtain ⟨c3, k1, k2, k3, k4, k5, k6, k7⟩ := layOut_c (c := c2) w1 w2 h1 h2 e
  rw [k7, gb_v]
  have hn : 0 < w * h := Nat.mul_pos w1 h1
  have s3 : SB c3 (g_si m2 0 23 (nI h)) T len en1 kd2 st2 en2 := (s2.m0 (by decide) (by decide) (by decide) (by decide) (by decide)).cg (k1 1 (by simp)).1 (k1 2 (by simp)).1
  have o2 := s3.2.2.2.2.1.1.1
  have PF3 : PF c c3 := (f1.pf.tr f2.pf).tr ⟨k1.mono (fun k hk => by simp at hk ⊢; omega), by rw [(k1 1 (by simp)).1]⟩
  have hr3 : ∀ r, r ≠ 0 → (g_si m2 0 23 (nI h)).1 r = m.1 r := fun r hr => ((sir hr).trans (g4 r hr)).trans (hr1 r hr)
  have h03 : ∀ j, j ≠ 18 → j ≠ 19 → j ≠ 20 → j ≠ 21 → j ≠ 38 → j ≠ 22 → j ≠ 23 → (g_si m2 0 23 (nI h)).1 0 j = m.1 0 j := fun j z1 z2 z3 z4 z5 z6 z7 => by rw [si_nj z7, g5 j z1 z2 z3 z4 z5, h01 j z1 z2 z3 z4 z5 z6]
  have MK3 : Mk m (g_si m2 0 23 (nI h)) := Mk.p0 hr3 (fun j hj => h03 j (by omega) (by omega) (by omega) (by omega) (by omega) (by omega) (by omega))
  have h223 : (g_si m2 0 23 (nI h)).1 0 22 = nI w := by rw [si_nj (by decide), g5 22 (by decide) (by decide) (by decide) (by decide) (by decide), h22]
  have h233 : (g_si m2 0 23 (nI h)).1 0 23 = nI h := si_eq
  generalize hy : g_si m2 0 23 (nI h) = y at s3 hr3 h03 MK3 h223 h233 ⊢
  rcases s3.stop with ⟨c5, m5, kd5, st5, en5, f5, g8, sb5, lt5, e5, e6⟩ | ⟨c', m', d1, d1', d2, d3, d4, e5, e6⟩
  · rw [e5, e6, gb_i, gb_i]
    refine ⟨w, h, Or.inl ⟨c5, m5, en2, kd5, st5, en5, sb5, by omega, PF3.tr f5.pf, MK3.tr (Mk.p0 g8.1 (fun j hj => g8.2 j (by omega) (by omega) (by omega) (by omega))), ?_, rfl, rfl⟩⟩
    have cr : ∀ k, k ≠ 1 → k ≤ 3 ∨ 12 ≤ k → c5.1 k = c.1 k := fun k a b => by rw [(f5.1 k (by simp; omega)).1, (k1 k (by simp; omega)).1, (f2.1 k (by simp; omega)).1, (f1.1 k (by simp; omega)).1]
    have c53 : ∀ k, k ≠ 1 → c5.1 k = c3.1 k := fun k a => (f5.1 k (by simp; omega)).1
    refine D.dd hn e (k2.congr (fun k a b => c53 k (by omega))) ?_ ?_ ?_ ?_ ?_ ?_ (cr 3 (by decide) (by omega)) (cr 12 (by decide) (by omega)) (cr 13 (by decide) (by omega)) (fun r hr => (g8.1 r hr).trans (hr3 r hr)) (fun j j1 j2 => (g8.2 j (by omega) (by omega) (by omega) (by omega)).trans (h03 j (by omega) (by omega) (by omega) (by omega) (by omega) (by omega) (by omega)))
    · rw [g8.2 22 (by decide) (by decide) (by decide) (by decide)]; exact h223
    · rw [g8.2 23 (by decide) (by decide) (by decide) (by decide)]; exact h233
    · rw [c53 4 (by decide)]; exact k3
    · rw [c53 4 (by decide)]; exact k4
    · rw [c53 4 (by decide)]; exact k5
    · rw [c53 7 (by decide), c53 8 (by decide), c53 9 (by decide)]; exact k6
  · rw [e5, e6, gb_i, gb_i]
    exact ⟨0, 0, Or.inr ⟨c', m', PF3.tr (PF.f3 d1 d1'), MK3.tr (Mk.p0 d2 (fun j hj => d3 j (by omega))), d4, rfl, rfl⟩⟩
end SIZE
