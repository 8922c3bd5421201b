/-! The steps of reading, in both -/
theorem in_g {y a b : Int32} {s : gS} : f_X10_in y.toInt64 a.toInt64 b.toInt64 s = some (some (.int (if a ≤ y ∧ y ≤ b then 1 else 0)), s) := by
  rw [in_f]
  by_cases h : a ≤ y ∧ y ≤ b
  · rw [if_pos h, if_pos ⟨(i64le _ _).mpr h.1, (i64le _ _).mpr h.2⟩]
  · rw [if_neg h, if_neg (fun z => h ⟨(i64le _ _).mp z.1, (i64le _ _).mp z.2⟩)]
section STEP
variable {T : Nat → Int32} {len : Nat}
theorem iw_m3 {m : gS} {v1 v2 v3 : Int32} {kd st en : Nat} (h : TM m T len) (a : LA m T kd st en) (hk : kd ≤ 4) (hs : st ≤ en) (hen : en ≤ len) : (Wd T kd st en [v1, v2, v3] → f_X10_isWord v1 v2 v3 0 0 0 m = some (some (.int 1), m)) ∧ (¬ Wd T kd st en [v1, v2, v3] → f_X10_isWord v1 v2 v3 0 0 0 m = some (some (.int 0), m)) := by
  unfold f_X10_isWord
  rw [if_pos rfl]
  obtain ⟨a1, a2⟩ := iw_l (v1 := v1) (v2 := v2) (v3 := v3) (v4 := 0) (v5 := 0) (v6 := 0) (L := 3) h a hk hs hen (by omega)
  have e : Wd T kd st en [v1, v2, v3] ↔ (kd = 1 ∧ en - st = 3 ∧ ∀ j, j < 3 → T (st + j) = sixW v1 v2 v3 0 0 0 j) := by
    refine ⟨fun z => ⟨z.1, z.2.1, fun j hj => ?_⟩, fun z => ⟨z.1, z.2.1, fun j hj => ?_⟩⟩
    · have := z.2.2 j hj
      rcases (show j = 0 ∨ j = 1 ∨ j = 2 by omega) with rfl | rfl | rfl <;> exact this
    · have hj' : j < 3 := hj
      have := z.2.2 j hj
      rcases (show j = 0 ∨ j = 1 ∨ j = 2 by omega) with rfl | rfl | rfl <;> exact this
  exact ⟨fun z => a1 (e.mp z), fun z => a2 (fun y => z (e.mpr y))⟩
theorem iw_m5 {m : gS} {v1 v2 v3 v4 v5 : Int32} {kd st en : Nat} (h4 : ¬ v4 = 0) (h5 : ¬ v5 = 0) (h : TM m T len) (a : LA m T kd st en) (hk : kd ≤ 4) (hs : st ≤ en) (hen : en ≤ len) : (Wd T kd st en [v1, v2, v3, v4, v5] → f_X10_isWord v1 v2 v3 v4 v5 0 m = some (some (.int 1), m)) ∧ (¬ Wd T kd st en [v1, v2, v3, v4, v5] → f_X10_isWord v1 v2 v3 v4 v5 0 m = some (some (.int 0), m)) := by
  unfold f_X10_isWord
  rw [if_neg h4, if_neg h5, if_pos rfl]
  obtain ⟨a1, a2⟩ := iw_l (v1 := v1) (v2 := v2) (v3 := v3) (v4 := v4) (v5 := v5) (v6 := 0) (L := 5) h a hk hs hen (by omega)
  have e : Wd T kd st en [v1, v2, v3, v4, v5] ↔ (kd = 1 ∧ en - st = 5 ∧ ∀ j, j < 5 → T (st + j) = sixW v1 v2 v3 v4 v5 0 j) := by
    refine ⟨fun z => ⟨z.1, z.2.1, fun j hj => ?_⟩, fun z => ⟨z.1, z.2.1, fun j hj => ?_⟩⟩
    · have := z.2.2 j hj
      rcases (show j = 0 ∨ j = 1 ∨ j = 2 ∨ j = 3 ∨ j = 4 by omega) with rfl | rfl | rfl | rfl | rfl <;> exact this
    · have hj' : j < 5 := hj
      have := z.2.2 j hj
      rcases (show j = 0 ∨ j = 1 ∨ j = 2 ∨ j = 3 ∨ j = 4 by omega) with rfl | rfl | rfl | rfl | rfl <;> exact this
  exact ⟨fun z => a1 (e.mp z), fun z => a2 (fun y => z (e.mpr y))⟩
theorem iw_m6 {m : gS} {v1 v2 v3 v4 v5 v6 : Int32} {kd st en : Nat} (h4 : ¬ v4 = 0) (h5 : ¬ v5 = 0) (h6 : ¬ v6 = 0) (h : TM m T len) (a : LA m T kd st en) (hk : kd ≤ 4) (hs : st ≤ en) (hen : en ≤ len) : (Wd T kd st en [v1, v2, v3, v4, v5, v6] → f_X10_isWord v1 v2 v3 v4 v5 v6 m = some (some (.int 1), m)) ∧ (¬ Wd T kd st en [v1, v2, v3, v4, v5, v6] → f_X10_isWord v1 v2 v3 v4 v5 v6 m = some (some (.int 0), m)) := by
  unfold f_X10_isWord
  rw [if_neg h4, if_neg h5, if_neg h6]
  obtain ⟨a1, a2⟩ := iw_l (v1 := v1) (v2 := v2) (v3 := v3) (v4 := v4) (v5 := v5) (v6 := v6) (L := 6) h a hk hs hen (by omega)
  have e : Wd T kd st en [v1, v2, v3, v4, v5, v6] ↔ (kd = 1 ∧ en - st = 6 ∧ ∀ j, j < 6 → T (st + j) = sixW v1 v2 v3 v4 v5 v6 j) := by
    refine ⟨fun z => ⟨z.1, z.2.1, fun j hj => ?_⟩, fun z => ⟨z.1, z.2.1, fun j hj => ?_⟩⟩
    · have := z.2.2 j hj
      rcases (show j = 0 ∨ j = 1 ∨ j = 2 ∨ j = 3 ∨ j = 4 ∨ j = 5 by omega) with rfl | rfl | rfl | rfl | rfl | rfl <;> exact this
    · have hj' : j < 6 := hj
      have := z.2.2 j hj
      rcases (show j = 0 ∨ j = 1 ∨ j = 2 ∨ j = 3 ∨ j = 4 ∨ j = 5 by omega) with rfl | rfl | rfl | rfl | rfl | rfl <;> exact this
  exact ⟨fun z => a1 (e.mp z), fun z => a2 (fun y => z (e.mpr y))⟩
/-- the class holds the token that the reference looks at -/
def SA (c m : gS) (T : Nat → Int32) (len kd st en : Nat) : Prop := TC c T len ∧ TM m T len ∧ c.1 1 2 = nI kd ∧ c.1 1 3 = nI st ∧ c.1 1 4 = nI en ∧ LA m T kd st en ∧ kd ≤ 4 ∧ st ≤ en ∧ en ≤ len ∧ (kd ≠ 0 → st < en)
/-- the class is done with what lies before the token that the reference looks at -/
def SB (c m : gS) (T : Nat → Int32) (len p kd st en : Nat) : Prop := TC c T len ∧ TM m T len ∧ c.1 1 4 = nI p ∧ p ≤ len ∧ Tk T len p kd st en ∧ LA m T kd st en
def F1 (c c' : gS) : Prop := Sm [1] c c' ∧ ∀ j, j ≠ 2 → j ≠ 3 → j ≠ 4 → c'.1 1 j = c.1 1 j
def G1 (m m' : gS) : Prop := (∀ r, r ≠ 0 → m'.1 r = m.1 r) ∧ ∀ j, j ≠ 18 → j ≠ 19 → j ≠ 20 → j ≠ 21 → m'.1 0 j = m.1 0 j
theorem TC.f1 {c c' : gS} (h : TC c T len) (f : F1 c c') : TC c' T len := ⟨h.1, by rw [f.2 1 (by decide) (by decide) (by decide)]; exact h.2.1, by rw [(f.1 2 (by simp)).1]; exact h.2.2⟩
theorem TM.g1 {m m' : gS} (h : TM m T len) (f : G1 m m') : TM m' T len := ⟨h.1, by rw [f.2 16 (by decide) (by decide) (by decide) (by decide)]; exact h.2.1, by rw [f.1 11 (by decide)]; exact h.2.2⟩
theorem SB.nt {c m : gS} {p kd st en : Nat} (s : SB c m T len p kd st en) : ∃ c', F1 c c' ∧ f_X7_nextToken c = some (none, c') ∧ SA c' m T len kd st en := by
  obtain ⟨a1, a2, a3, a4, a5, a6⟩ := s
  obtain ⟨c', b1, b2, b3, b4, b5, b6⟩ := nt_c a1 a3 a5
  obtain ⟨k1, k2, k3, k4, k5, k6⟩ := a5.b
  exact ⟨c', ⟨b1, b2⟩, b6, a1.f1 ⟨b1, b2⟩, a2, b3, b4, b5, a6, k4, k2, k3, k5⟩
theorem SA.go {c m : gS} {kd st en : Nat} (s : SA c m T len kd st en) : ∃ m' kd' st' en', G1 m m' ∧ f_X10_goOn m = some (none, m') ∧ SB c m' T len en kd' st' en' := by
  obtain ⟨a1, a2, a3, a4, a5, a6, a7, a8, a9, a10⟩ := s
  obtain ⟨kd', st', en', hk⟩ := Tk.ex (T := T) a9
  obtain ⟨m', b1, b2, b3, b4⟩ := lk_m a2 hk
  refine ⟨m', kd', st', en', ⟨b1, b2⟩, ?_, a1, a2.g1 ⟨b1, b2⟩, a5, a9, hk, b3⟩
  unfold f_X10_goOn
  rw [a6.1, a6.2.1, nI_add, show st + (en - st) = en by omega, b4, gb_v]
/-- the same word to both -/
theorem SA.wd {c m : gS} {kd st en w : Nat} {W : List Int32} {om : gR} (s : SA c m T len kd st en) (hW : Wn w W) (hm : (Wd T kd st en W → om = some (some (.int 1), m)) ∧ (¬ Wd T kd st en W → om = some (some (.int 0), m))) : ∃ r : Int32, (r = 0 ∨ r = 1) ∧ f_X7_isWord w c = some (some (.int r), c) ∧ om = some (some (.int r), m) := by
  obtain ⟨a1, a2, a3, a4, a5, a6, a7, a8, a9, a10⟩ := s
  obtain ⟨b1, b2⟩ := iw_c hW a1 a3 a4 a5 a7 a8 a9
  rcases Classical.em (Wd T kd st en W) with h | h
  · exact ⟨1, Or.inr rfl, b1 h, hm.1 h⟩
  · exact ⟨0, Or.inl rfl, b2 h, hm.2 h⟩
/-- both have failed at the same place for the same reason -/
def FL (c m : gS) : Prop := ∃ f st, 1 ≤ f ∧ f ≤ 4 ∧ c.1 3 9 = nI f ∧ m.1 0 37 = nI f ∧ c.1 3 10 = nI st ∧ m.1 0 18 = nI st
theorem SA.fail {c m : gS} {kd st en : Nat} (s : SA c m T len kd st en) (f : Nat) (h1 : 1 ≤ f) (h4 : f ≤ 4) : ∃ c' m', Sm [3] c c' ∧ (∀ r, r ≠ 0 → m'.1 r = m.1 r) ∧ (∀ j, j ≠ 37 → m'.1 0 j = m.1 0 j) ∧ FL c' m' ∧ f_X5_fail (nI f) c = some (some (.int 0), c') ∧ f_X10_faults (nI f) m = some (some (.int 0), m') := by
  obtain ⟨a1, a2, a3, a4, a5, a6, a7, a8, a9, a10⟩ := s
  unfold f_X5_fail f_X10_faults
  rw [gl_s, gl_s, gl_s]
  refine ⟨_, _, (Sm.si (by simp)).tr (Sm.si (by simp)), fun r hr => sir hr, fun j hj => si_nj hj, ⟨f, st, h1, h4, ?_, by rw [si_eq], ?_, ?_⟩, rfl, rfl⟩
  · rw [si_nj (by decide), si_eq]
  · rw [si_eq, sir (by decide), a4]
  · rw [si_nj (by decide)]; exact a6.1
/-- a number -/
theorem SB.num {c m : gS} {p kd st en lo hi : Nat} (s : SB c m T len p kd st en) (h99 : hi ≤ 99) (hlo : lo ≤ hi) :
    (∃ c' m' x kd' st' en', F1 c c' ∧ (∀ r, r ≠ 0 → m'.1 r = m.1 r) ∧ (∀ j, j ≠ 18 → j ≠ 19 → j ≠ 20 → j ≠ 21 → j ≠ 38 → m'.1 0 j = m.1 0 j) ∧ lo ≤ x ∧ x ≤ hi ∧ m'.1 0 38 = nI x ∧ SB c' m' T len en kd' st' en' ∧ st < en ∧ f_X5_readNumber (nI lo) (nI hi) c = some (some (.int (nI x)), c') ∧ f_X10_takes (nI lo) (nI hi) m = some (some (.int 1), m')) ∨
    (∃ c' m', Sm [1, 3] c c' ∧ (∀ j, j ≠ 2 → j ≠ 3 → j ≠ 4 → c'.1 1 j = c.1 1 j) ∧ (∀ r, r ≠ 0 → m'.1 r = m.1 r) ∧ (∀ j, j ≠ 37 → m'.1 0 j = m.1 0 j) ∧ FL c' m' ∧ f_X5_readNumber (nI lo) (nI hi) c = some (some (.int (-1)), c') ∧ f_X10_takes (nI lo) (nI hi) m = some (some (.int 0), m')) := by
  obtain ⟨c1, f1, n1, sa⟩ := s.nt
  have sa' := sa
  obtain ⟨a1, a2, a3, a4, a5, a6, a7, a8, a9, a10⟩ := sa'
  have hl := a1.1
  unfold f_X5_readNumber f_X10_takes
  rw [n1, gb_v, a3, a6.2.2.1]
  have bad : ∀ f, 1 ≤ f → f ≤ 4 → ∃ c' m', Sm [1, 3] c c' ∧ (∀ j, j ≠ 2 → j ≠ 3 → j ≠ 4 → c'.1 1 j = c.1 1 j) ∧ (∀ r, r ≠ 0 → m'.1 r = m.1 r) ∧ (∀ j, j ≠ 37 → m'.1 0 j = m.1 0 j) ∧ FL c' m' ∧ f_X5_fail (nI f) c1 = some (some (.int 0), c') ∧ f_X10_faults (nI f) m = some (some (.int 0), m') := fun f x y => by
    obtain ⟨c', m', b1, b2, b3, b4, b5, b6⟩ := sa.fail f x y
    exact ⟨c', m', (f1.1.mono (fun k hk => by simp at hk ⊢; omega)).tr (b1.mono (fun k hk => by simp at hk ⊢; omega)), fun j x y z => by rw [(b1 1 (by simp)).1]; exact f1.2 j x y z, b2, b3, b4, b5, b6⟩
  by_cases e : kd = 2
  · subst e
    rw [if_pos (show nI 2 = 2 from rfl), if_pos (show nI 2 = 2 from rfl), va_c a1 a3 a4 a5 a9 a8, gb_i, a6.2.2.2 rfl, in_g, gb_i]
    have key : ∀ (v y : Int32), (nI lo ≤ y ∧ y ≤ nI hi ↔ nI lo ≤ v ∧ v ≤ nI hi) → ((nI lo ≤ y ∧ y ≤ nI hi) → v = y) → v = (if en - st ≤ 3 then vl T st (en - st) else -1) → y = vk T st en → (∃ x, lo ≤ x ∧ x ≤ hi ∧ v = nI x ∧ y = nI x) ∨ (¬ (nI lo ≤ v ∧ v ≤ nI hi) ∧ ¬ (nI lo ≤ y ∧ y ≤ nI hi)) := fun v y h1 h2 h3 h4 => by
      rcases rng2 y lo hi (by omega) hlo with ⟨x, x1, x2, rfl⟩ | ⟨x1, x2⟩
      · exact Or.inl ⟨x, x1, x2, h2 ⟨nI_le x1 (by omega), nI_le x2 (by omega)⟩, rfl⟩
      · exact Or.inr ⟨fun z => x2 (h1.mpr z), x2⟩
    have cs : (∃ x, lo ≤ x ∧ x ≤ hi ∧ (if en - st ≤ 3 then vl T st (en - st) else -1) = nI x ∧ vk T st en = nI x) ∨ (¬ (nI lo ≤ (if en - st ≤ 3 then vl T st (en - st) else -1) ∧ (if en - st ≤ 3 then vl T st (en - st) else -1) ≤ nI hi) ∧ ¬ (nI lo ≤ vk T st en ∧ vk T st en ≤ nI hi)) := by
      refine key _ _ ?_ ?_ rfl rfl
      · unfold vk
        by_cases z : en - st ≤ 3
        · rw [if_pos z, if_pos z]
        · rw [if_neg z, if_neg z]
          refine ⟨fun q => ?_, fun q => absurd q.1 (neg_nle (by decide) (by omega))⟩
          have := (nI_leI (a := 1000) (b := hi) (by omega) (by omega)).mp q.2
          omega
      · unfold vk
        by_cases z : en - st ≤ 3
        · rw [if_pos z, if_pos z]; exact fun _ => rfl
        · rw [if_neg z, if_neg z]
          intro q
          have := (nI_leI (a := 1000) (b := hi) (by omega) (by omega)).mp q.2
          omega
    generalize (if en - st ≤ 3 then vl T st (en - st) else -1) = v at cs ⊢
    generalize hy : vk T st en = y at cs ⊢
    rcases cs with ⟨x, x1, x2, rfl, rfl⟩ | ⟨x1, x2⟩
    · refine Or.inl ?_
      rw [if_neg (by rw [nI_ltI (by omega) (by omega)]; omega), if_pos (nI_le x2 (by omega)), if_pos (⟨nI_le x1 (by omega), nI_le x2 (by omega)⟩ : nI lo ≤ nI x ∧ nI x ≤ nI hi), if_neg (by decide), gl_s, a6.2.2.2 rfl, hy]
      have sa2 : SA c1 (g_si m 0 38 (nI x)) T len 2 st en := ⟨a1, a2.si (by decide), a3, a4, a5, ⟨by rw [si_nj (by decide)]; exact a6.1, by rw [si_nj (by decide)]; exact a6.2.1, by rw [si_nj (by decide)]; exact a6.2.2.1, fun z => by rw [si_nj (by decide)]; exact a6.2.2.2 z⟩, a7, a8, a9, a10⟩
      obtain ⟨m', kd', st', en', g1, g2, g3⟩ := sa2.go
      rw [g2, gb_v]
      exact ⟨c1, m', x, kd', st', en', f1, fun r hr => by rw [g1.1 r hr, sir hr], fun j x y z u v => by rw [g1.2 j x y z u, si_nj v], x1, x2, by rw [g1.2 38 (by decide) (by decide) (by decide) (by decide), si_eq], g3, a10 (by decide), rfl, rfl⟩
    · refine Or.inr ?_
      obtain ⟨c', m', b1, b1', b2, b3, b4, b5, b6⟩ := bad 2 (by omega) (by omega)
      rw [if_neg x2, if_pos rfl, show (2 : Int32) = nI 2 from rfl, b5, b6, gb_i, gb_i]
      refine ⟨c', m', b1, b1', b2, b3, b4, ?_, rfl⟩
      by_cases z : v < nI lo
      · rw [if_pos z]
      · rw [if_neg z, if_neg (fun u => x1 ⟨Int32.not_lt.mp z, u⟩)]
  · refine Or.inr ?_
    obtain ⟨c', m', b1, b1', b2, b3, b4, b5, b6⟩ := bad 1 (by omega) (by omega)
    have e2 : ¬ nI kd = 2 := fun z => e ((nI_eq (b := 2) (by omega) (by omega)).mp z)
    rw [if_neg e2, if_neg e2, show (1 : Int32) = nI 1 from rfl, b5, b6, gb_i, gb_i]
    exact ⟨c', m', b1, b1', b2, b3, b4, rfl, rfl⟩
/-- a stop -/
theorem SB.stop {c m : gS} {p kd st en : Nat} (s : SB c m T len p kd st en) :
    (∃ c' m' kd' st' en', F1 c c' ∧ G1 m m' ∧ SB c' m' T len en kd' st' en' ∧ st < en ∧ f_X5_readStop c = some (some (.int 1), c') ∧ f_X10_stops m = some (some (.int 1), m')) ∨
    (∃ c' m', Sm [1, 3] c c' ∧ (∀ j, j ≠ 2 → j ≠ 3 → j ≠ 4 → c'.1 1 j = c.1 1 j) ∧ (∀ r, r ≠ 0 → m'.1 r = m.1 r) ∧ (∀ j, j ≠ 37 → m'.1 0 j = m.1 0 j) ∧ FL c' m' ∧ f_X5_readStop c = some (some (.int 0), c') ∧ f_X10_stops m = some (some (.int 0), m')) := by
  obtain ⟨c1, f1, n1, sa⟩ := s.nt
  have sa' := sa
  obtain ⟨a1, a2, a3, a4, a5, a6, a7, a8, a9, a10⟩ := sa'
  have hl := a1.1
  unfold f_X5_readStop f_X10_stops
  rw [n1, gb_v, a3, a6.2.2.1]
  by_cases e : kd = 3
  · subst e
    refine Or.inl ?_
    obtain ⟨m', kd', st', en', g1, g2, g3⟩ := sa.go
    rw [if_pos (show nI 3 = 3 from rfl), if_pos (show nI 3 = 3 from rfl), g2, gb_v]
    exact ⟨c1, m', kd', st', en', f1, g1, g3, a10 (by decide), rfl, rfl⟩
  · refine Or.inr ?_
    obtain ⟨c', m', b1, b2, b3, b4, b5, b6⟩ := sa.fail 1 (by omega) (by omega)
    have e2 : ¬ nI kd = 3 := fun z => e ((nI_eq (b := 3) (by omega) (by omega)).mp z)
    rw [if_neg e2, if_neg e2, show (1 : Int32) = nI 1 from rfl, b5, b6, gb_i, gb_i]
    exact ⟨c', m', (f1.1.mono (fun k hk => by simp at hk ⊢; omega)).tr (b1.mono (fun k hk => by simp at hk ⊢; omega)), fun j x y z => by rw [(b1 1 (by simp)).1]; exact f1.2 j x y z, b2, b3, b4, rfl, rfl⟩
end STEP
