/-! Keeping and going back -/
theorem PR.copy {c m c' m' : gS} {a r b a' r' b' n law sd : Nat} {gr fg : Nat → Nat} {wk noon lick : Option Nat} (P : PR c m a r b n gr fg wk noon lick law sd) (hn : n ≤ 40) (h1 : ∀ q, q < 40 → c'.1 (a' + 1) q = c.1 (a + 1) q ∧ c'.1 (a' + 2) q = c.1 (a + 2) q) (h2 : ∀ j, 3 ≤ j → j ≤ 10 → c'.1 a' j = c.1 a j) (h3 : ∀ q, q < 88 → m'.1 r' (b' + q) = m.1 r (b + q)) : PR c' m' a' r' b' n gr fg wk noon lick law sd := by
  refine ⟨fun q hq => ?_, ?_, ?_, ?_, ?_, ?_, ?_, ?_, ?_⟩
  · rw [(h1 q (by omega)).1, (h1 q (by omega)).2, h3 q (by omega), h3 (40 + q) (by omega)]; exact P.1 q hq
  · rw [h2 3 (by omega) (by omega), h3 80 (by omega)]; exact P.2.1
  · rw [h2 4 (by omega) (by omega), h3 81 (by omega)]; exact P.2.2.1
  · rw [h2 5 (by omega) (by omega), h3 82 (by omega)]; exact P.2.2.2.1
  · rw [h2 6 (by omega) (by omega), h3 83 (by omega)]; exact P.2.2.2.2.1
  · rw [h2 7 (by omega) (by omega), h3 84 (by omega)]; exact P.2.2.2.2.2.1
  · rw [h2 8 (by omega) (by omega), h3 85 (by omega)]; exact P.2.2.2.2.2.2.1
  · rw [h2 9 (by omega) (by omega), h3 86 (by omega)]; exact P.2.2.2.2.2.2.2.1
  · rw [h2 10 (by omega) (by omega), h3 87 (by omega)]; exact P.2.2.2.2.2.2.2.2
theorem take_l {s0 : gS} {a b : Nat} (hab : a + 3 ≤ b ∨ b + 3 ≤ a) {k : Int32 → gS → gR} : ∀ (n i : Nat) (s : gS), i ≤ 40 → 40 - i < n → Sm [a + 1, a + 2] s0 s → (∀ q, q < i → s.1 (a + 1) q = s0.1 (b + 1) q ∧ s.1 (a + 2) q = s0.1 (b + 2) q) →
    ∃ s', Sm [a + 1, a + 2] s0 s' ∧ (∀ q, q < 40 → s'.1 (a + 1) q = s0.1 (b + 1) q ∧ s'.1 (a + 2) q = s0.1 (b + 2) q) ∧ f_X4_takeFrom_2 a b k n (nI i) s = k (nI 40) s' := by
  intro n
  induction n with
  | zero => intro i s _ h2; omega
  | succ n ih =>
    intro i s h1 h2 hS hP
    rw [f_X4_takeFrom_2.eq_2, c32_40]
    by_cases hi : 40 ≤ i
    · have e : i = 40 := by omega
      subst e
      rw [if_pos ((nI_leI (by omega) (by omega)).mpr (Nat.le_refl _))]
      exact ⟨s, hS, hP, rfl⟩
    · rw [if_neg (by rw [nI_leI (by omega) (by omega)]; omega), g_ixn (by omega) (by omega), g_ixn (by omega) (by omega), nI_clamp (by omega)]
      simp only [g_let]
      rw [g_ixn (by omega) (by omega), g_ixn (by omega) (by omega), nI_1]
      have b1 := (hS (b + 1) (by simp; omega)).1
      have b2 := (hS (b + 2) (by simp; omega)).1
      refine ih (i + 1) _ (by omega) (by omega) ((hS.tr (Sm.si (by simp))).tr (Sm.si (by simp))) (fun q hq => ?_)
      rw [sir (a := a + 1) (k := a + 2) (by omega), sir (a := b + 2) (k := a + 1) (by omega), b1, b2]
      by_cases e : q = i
      · subst e
        rw [si_eq, si_eq]
        exact ⟨rfl, rfl⟩
      · rw [si_nj e, si_nj e, sir (a := a + 2) (k := a + 1) (by omega)]
        exact hP q (by omega)
theorem take_c {s : gS} {a b : Nat} (hab : a + 3 ≤ b ∨ b + 3 ≤ a) : ∃ s', Sm [a, a + 1, a + 2] s s' ∧ (∀ q, q < 40 → s'.1 (a + 1) q = s.1 (b + 1) q ∧ s'.1 (a + 2) q = s.1 (b + 2) q) ∧ (∀ j, 3 ≤ j → j ≤ 10 → s'.1 a j = s.1 b j) ∧ f_X4_takeFrom a b s = some (none, s') := by
  unfold f_X4_takeFrom
  simp only [g_let]
  obtain ⟨s1, a1, a2, a3⟩ := take_l (k := fun v2_3 s4 => some (none, g_si (g_si (g_si (g_si (g_si (g_si (g_si (g_si s4 a 3 (s4.1 b 3)) a 4 ((g_si s4 a 3 (s4.1 b 3)).1 b 4)) a 5 ((g_si (g_si s4 a 3 (s4.1 b 3)) a 4 ((g_si s4 a 3 (s4.1 b 3)).1 b 4)).1 b 5)) a 6 (s4.1 b 6)) a 7 (s4.1 b 7)) a 8 (s4.1 b 8)) a 9 (s4.1 b 9)) a 10 (s4.1 b 10))) hab g_N 0 s (Nat.zero_le _) (by unfold g_N; omega) Sm.rf (fun q hq => absurd hq (by omega))
  have hb : b ≠ a := by omega
  have eb : s1.1 b = s.1 b := (a1 b (by simp; omega)).1
  simp only [sir hb] at a3 ⊢
  rw [← c32_0] at a3
  refine ⟨_, ?_, ?_, ?_, a3⟩
  · have S0 : Sm [a, a + 1, a + 2] s s1 := a1.mono (fun k hk => by simp at hk ⊢; omega)
    exact (((((((S0.tr (Sm.si (by simp))).tr (Sm.si (by simp))).tr (Sm.si (by simp))).tr (Sm.si (by simp))).tr (Sm.si (by simp))).tr (Sm.si (by simp))).tr (Sm.si (by simp))).tr (Sm.si (by simp))
  · intro q hq
    simp only [sir (show a + 1 ≠ a by omega), sir (show a + 2 ≠ a by omega)]
    exact a2 q hq
  · intro j h1 h2
    rw [← eb]
    simp only [si1]
    rcases (show j = 3 ∨ j = 4 ∨ j = 5 ∨ j = 6 ∨ j = 7 ∨ j = 8 ∨ j = 9 ∨ j = 10 by omega) with rfl | rfl | rfl | rfl | rfl | rfl | rfl | rfl <;> simp
theorem keepM_l {m0 : gS} {p : Nat} (hp : p < 2) {k : Int32 → gS → gR} : ∀ (n i : Nat) (m : gS), i ≤ 88 → 88 - i < n → (∀ r, r ≠ 2 → m.1 r = m0.1 r) → (∀ q, q < i → m.1 2 (88 * p + q) = m0.1 1 q) → (∀ j, (j < 88 * p ∨ 88 * p + 88 ≤ j) → m.1 2 j = m0.1 2 j) →
    ∃ m', (∀ r, r ≠ 2 → m'.1 r = m0.1 r) ∧ (∀ q, q < 88 → m'.1 2 (88 * p + q) = m0.1 1 q) ∧ (∀ j, (j < 88 * p ∨ 88 * p + 88 ≤ j) → m'.1 2 j = m0.1 2 j) ∧ f_X10_keep_15 (nI p) k n (nI i) m = k (nI 88) m' := by
  intro n
  induction n with
  | zero => intro i m _ h2; omega
  | succ n ih =>
    intro i m h1 h2 hr hq hj
    rw [f_X10_keep_15.eq_2, show (88 : Int32) = nI 88 from rfl]
    by_cases hi : 88 ≤ i
    · have e : i = 88 := by omega
      subst e
      rw [if_pos ((nI_leI (by omega) (by omega)).mpr (Nat.le_refl _))]
      exact ⟨m, hr, hq, hj, rfl⟩
    · rw [if_neg (by rw [nI_leI (by omega) (by omega)]; omega), g_ixn (by omega) (by omega), nI_clamp (by omega), pk_mul, nI_add, g_ixn (by omega) (by omega), nI_clamp (by omega), nI_1]
      simp only [g_let]
      refine ih (i + 1) _ (by omega) (by omega) (fun r h => (sir h).trans (hr r h)) (fun q h => ?_) (fun j h => ?_)
      · rw [hr 1 (by decide)]
        by_cases e : q = i
        · subst e; rw [si_eq]
        · rw [si_nj (by omega)]; exact hq q (by omega)
      · rw [si_nj (by omega)]; exact hj j h
theorem backM_l {m0 : gS} {p : Nat} (hp : p < 2) {k : Int32 → gS → gR} : ∀ (n i : Nat) (m : gS), i ≤ 88 → 88 - i < n → (∀ r, r ≠ 1 → m.1 r = m0.1 r) → (∀ q, q < i → m.1 1 q = m0.1 2 (88 * p + q)) →
    ∃ m', (∀ r, r ≠ 1 → m'.1 r = m0.1 r) ∧ (∀ q, q < 88 → m'.1 1 q = m0.1 2 (88 * p + q)) ∧ f_X10_goBack_28 (nI p) k n (nI i) m = k (nI 88) m' := by
  intro n
  induction n with
  | zero => intro i m _ h2; omega
  | succ n ih =>
    intro i m h1 h2 hr hq
    rw [f_X10_goBack_28.eq_2, show (88 : Int32) = nI 88 from rfl]
    by_cases hi : 88 ≤ i
    · have e : i = 88 := by omega
      subst e
      rw [if_pos ((nI_leI (by omega) (by omega)).mpr (Nat.le_refl _))]
      exact ⟨m, hr, hq, rfl⟩
    · rw [if_neg (by rw [nI_leI (by omega) (by omega)]; omega), pk_mul, nI_add, g_ixn (by omega) (by omega), g_ixn (by omega) (by omega), nI_clamp (by omega), nI_clamp (by omega), nI_1]
      simp only [g_let]
      refine ih (i + 1) _ (by omega) (by omega) (fun r h => (sir h).trans (hr r h)) (fun q h => ?_)
      · rw [hr 2 (by decide)]
        by_cases e : q = i
        · subst e; rw [si_eq]
        · rw [si_nj (by omega)]; exact hq q (by omega)
theorem keep_rel {c m c' m' : gS} {p : Nat} (hp : p < 2) (R : Rel c m) (hc : Sm [25 + 4 * p, 26 + 4 * p, 26 + 4 * p + 1, 26 + 4 * p + 2] c c') (h1 : ∀ q, q < 40 → c'.1 (26 + 4 * p + 1) q = c.1 23 q ∧ c'.1 (26 + 4 * p + 2) q = c.1 24 q) (h2 : ∀ j, 3 ≤ j → j ≤ 10 → c'.1 (26 + 4 * p) j = c.1 22 j) (h3 : c'.1 (25 + 4 * p) 1 = 1) (k1 : ∀ r, r ≠ 2 → r ≠ 3 → m'.1 r = m.1 r) (k2 : ∀ q, q < 88 → m'.1 2 (88 * p + q) = m.1 1 q) (k3 : ∀ j, (j < 88 * p ∨ 88 * p + 88 ≤ j) → m'.1 2 j = m.1 2 j) (k4 : m'.1 3 p = 1) (k5 : ∀ j, j ≠ p → m'.1 3 j = m.1 3 j) : Rel c' m' := by
  obtain ⟨w, h, hr, l, th, ti, L, ⟨gr, fg, wk, noon, lick, law, sd, P⟩, I0, I1, S, B, T, E⟩ := R
  have hn := L.1.1.n
  have e : ∀ k, (k < 25 ∨ 33 ≤ k) → c'.1 k = c.1 k := fun k hk => (hc k (by simp; omega)).1
  have I0' : IM c' m' (w * h) 0 := by
    by_cases hp0 : p = 0
    · subst hp0
      refine ⟨by rw [h3, k4], Or.inr ⟨k4, gr, fg, wk, noon, lick, law, sd, P.copy hn h1 h2 (fun q hq => by rw [k2 q hq, Nat.zero_add])⟩⟩
    · obtain ⟨i1, i2⟩ := I0
      refine ⟨by rw [(hc (25 + 4 * 0) (by simp; omega)).1, k5 0 (by omega)]; exact i1, ?_⟩
      rcases i2 with i2 | ⟨i2, gr', fg', wk', noon', lick', law', sd', P'⟩
      · exact Or.inl (by rw [k5 0 (by omega)]; exact i2)
      · refine Or.inr ⟨by rw [k5 0 (by omega)]; exact i2, gr', fg', wk', noon', lick', law', sd', P'.copy hn (fun q hq => ?_) (fun j _ _ => ?_) (fun q hq => k3 _ (by omega))⟩
        · rw [(hc (26 + 4 * 0 + 1) (by simp; omega)).1, (hc (26 + 4 * 0 + 2) (by simp; omega)).1]; exact ⟨rfl, rfl⟩
        · rw [(hc (26 + 4 * 0) (by simp; omega)).1]
  have I1' : IM c' m' (w * h) 1 := by
    by_cases hp0 : p = 1
    · subst hp0
      refine ⟨by rw [h3, k4], Or.inr ⟨k4, gr, fg, wk, noon, lick, law, sd, P.copy hn h1 h2 (fun q hq => by rw [k2 q hq, Nat.zero_add])⟩⟩
    · obtain ⟨i1, i2⟩ := I1
      refine ⟨by rw [(hc (25 + 4 * 1) (by simp; omega)).1, k5 1 (by omega)]; exact i1, ?_⟩
      rcases i2 with i2 | ⟨i2, gr', fg', wk', noon', lick', law', sd', P'⟩
      · exact Or.inl (by rw [k5 1 (by omega)]; exact i2)
      · refine Or.inr ⟨by rw [k5 1 (by omega)]; exact i2, gr', fg', wk', noon', lick', law', sd', P'.copy hn (fun q hq => ?_) (fun j _ _ => ?_) (fun q hq => k3 _ (by omega))⟩
        · rw [(hc (26 + 4 * 1 + 1) (by simp; omega)).1, (hc (26 + 4 * 1 + 2) (by simp; omega)).1]; exact ⟨rfl, rfl⟩
        · rw [(hc (26 + 4 * 1) (by simp; omega)).1]
  refine ⟨w, h, hr, l, th, ti, ?_, ⟨gr, fg, wk, noon, lick, law, sd, ?_⟩, I0', I1', ?_, ?_, ?_, ?_⟩
  · obtain ⟨a1, a2, a3, a4, a5, a6, a7⟩ := L
    unfold Md at a2
    refine ⟨a1.congr (fun k x y => e k (by omega)), ?_, ?_, a4.congr (fun k x y => e k (by omega)), ?_, ?_, ?_⟩
    · unfold Md; rw [k1 0 (by decide) (by decide)]; exact a2
    · rw [e 14 (by decide), k1 0 (by decide) (by decide)]; exact a3
    · rw [k1 6 (by decide) (by decide)]; exact a5
    · rw [k1 4 (by decide) (by decide)]; exact a6
    · rw [e 19 (by decide), k1 5 (by decide) (by decide)]; exact a7
  · unfold PR at *; rw [e 22 (by decide), e (22 + 1) (by decide), e (22 + 2) (by decide), k1 1 (by decide) (by decide)]; exact P
  · unfold SN at *; rw [e 41 (by decide), e 42 (by decide), e 43 (by decide), k1 0 (by decide) (by decide), k1 7 (by decide) (by decide), k1 8 (by decide) (by decide)]; exact S
  · unfold BK at *; rw [e 46 (by decide), e 47 (by decide), e 48 (by decide), k1 0 (by decide) (by decide), k1 9 (by decide) (by decide), k1 10 (by decide) (by decide)]; exact B
  · unfold TX at *; rw [e 1 (by decide), e 2 (by decide), k1 0 (by decide) (by decide), k1 11 (by decide) (by decide)]; exact T
  · rw [e 3 (by decide), k1 0 (by decide) (by decide)]; exact E
theorem op_keep {c m : gS} (R : Rel c m) (v : Int32) : Ag (f_X9_keep v c) (f_X10_keep v m) := by
  unfold f_X9_keep f_X10_keep
  rw [c64_0, c64_1]
  rcases rng2 v 0 1 (by omega) (by omega) with ⟨p, h1, h2, rfl⟩ | ⟨h1, h2⟩
  · rw [isImg_c (by omega), gb_i, i10, in_y h1 h2 (by omega), gb_i, i10]
    obtain ⟨m1, a1, a2, a3, a4⟩ := keepM_l (m0 := m) (p := p) (by omega) (k := fun v2_4 s5 => (g_ix (nI p) 2 (g_let (g_si s5 3 (nI p).toNatClampNeg (vp_nar .boolean (1 : Int32))) (fun s6 => (some (some (.int (1 : Int32)), s6)))))) g_N 0 m (by omega) (by unfold g_N; omega) (fun _ _ => rfl) (fun q hq => absurd hq (by omega)) (fun _ _ => rfl)
    rw [← c32_0] at a4
    rw [a4, g_ixn (by omega) (by omega), nI_clamp (by omega)]
    simp only [g_let]
    rw [show vp_nar .boolean (1 : Int32) = 1 from rfl]
    rcases (show p = 0 ∨ p = 1 by omega) with rfl | rfl
    · rw [if_pos (by decide)]
      obtain ⟨s1, b1, b2, b3, b4⟩ := take_c (s := c) (a := 26) (b := 22) (by omega)
      rw [b4, gb_v]
      refine Ag.mk' rfl rfl rfl (keep_rel (p := 0) (by omega) R ((b1.mono (fun k hk => by simp at hk ⊢; omega)).tr (Sm.si (by simp))) (fun q hq => by rw [sir (by omega), sir (by omega)]; exact b2 q hq) (fun j x y => by rw [sir (by omega)]; exact b3 j x y) (by rw [si_eq]) (fun r x y => by rw [sir y]; exact a1 r x) (fun q hq => by rw [sir (by omega)]; exact a2 q hq) (fun j hj => by rw [sir (by omega)]; exact a3 j hj) (by rw [si_eq]) (fun j hj => by rw [si_nj hj, a1 3 (by decide)]))
    · rw [if_neg (by decide)]
      obtain ⟨s1, b1, b2, b3, b4⟩ := take_c (s := c) (a := 30) (b := 22) (by omega)
      rw [b4, gb_v]
      refine Ag.mk' rfl rfl rfl (keep_rel (p := 1) (by omega) R ((b1.mono (fun k hk => by simp at hk ⊢; omega)).tr (Sm.si (by simp))) (fun q hq => by rw [sir (by omega), sir (by omega)]; exact b2 q hq) (fun j x y => by rw [sir (by omega)]; exact b3 j x y) (by rw [si_eq]) (fun r x y => by rw [sir y]; exact a1 r x) (fun q hq => by rw [sir (by omega)]; exact a2 q hq) (fun j hj => by rw [sir (by omega)]; exact a3 j hj) (by rw [si_eq]) (fun j hj => by rw [si_nj hj, a1 3 (by decide)]))
  · rw [isImg_cn h2, gb_i, i00, in_n (by omega) (by omega) h2, gb_i, i00]
    exact Ag.mk' rfl rfl rfl R
theorem op_goBack {c m : gS} (R : Rel c m) (v : Int32) : Ag (f_X9_goBack v c) (f_X10_goBack v m) := by
  obtain ⟨w, h, hr, l, th, ti, L, P, I0, I1, S, B, T, E⟩ := id R
  have hn := L.1.1.n
  unfold f_X9_goBack f_X10_goBack
  rw [c64_0, c64_1]
  rcases rng2 v 0 1 (by omega) (by omega) with ⟨p, h1, h2, rfl⟩ | ⟨h1, h2⟩
  · rw [isImg_c (by omega), gb_i, i10, in_y h1 h2 (by omega), gb_i, i10, g_ixn (by omega) (by omega), nI_clamp (by omega)]
    obtain ⟨m1, a1, a2, a4⟩ := backM_l (m0 := m) (p := p) (by omega) (k := fun v2_4 s5 => (some (some (.int (1 : Int32)), s5))) g_N 0 m (by omega) (by unfold g_N; omega) (fun _ _ => rfl) (fun q hq => absurd hq (by omega))
    rw [← c32_0] at a4
    rcases (show p = 0 ∨ p = 1 by omega) with rfl | rfl
    · rw [if_pos (show nI 0 = 0 by decide)]
      obtain ⟨s1, b1, b2, b3, b4⟩ := take_c (s := c) (a := 22) (b := 26) (by omega)
      obtain ⟨i1, i2⟩ := I0
      rw [show c.1 25 1 = m.1 3 0 from i1]
      rcases i2 with i2 | ⟨i2, gr', fg', wk', noon', lick', law', sd', P'⟩
      · rw [i2, i00, i00]; exact Ag.mk' rfl rfl rfl R
      · rw [i2, i10, i10, b4, gb_v, a4]
        exact Ag.mk' rfl rfl rfl (Rel.now L ⟨i1, Or.inr ⟨i2, gr', fg', wk', noon', lick', law', sd', P'⟩⟩ I1 S B T E b1 a1 ⟨gr', fg', wk', noon', lick', law', sd', P'.copy hn b2 b3 (fun q hq => by have := a2 q hq; simpa using this)⟩)
    · rw [if_neg (show ¬ nI 1 = 0 by decide)]
      obtain ⟨s1, b1, b2, b3, b4⟩ := take_c (s := c) (a := 22) (b := 30) (by omega)
      obtain ⟨i1, i2⟩ := I1
      rw [show c.1 29 1 = m.1 3 1 from i1]
      rcases i2 with i2 | ⟨i2, gr', fg', wk', noon', lick', law', sd', P'⟩
      · rw [i2, i00, i00]; exact Ag.mk' rfl rfl rfl R
      · rw [i2, i10, i10, b4, gb_v, a4]
        exact Ag.mk' rfl rfl rfl (Rel.now L I0 ⟨i1, Or.inr ⟨i2, gr', fg', wk', noon', lick', law', sd', P'⟩⟩ S B T E b1 a1 ⟨gr', fg', wk', noon', lick', law', sd', P'.copy hn b2 b3 (fun q hq => by rw [Nat.zero_add]; exact a2 q hq)⟩)
  · rw [isImg_cn h2, gb_i, i00, in_n (by omega) (by omega) h2, gb_i, i00]
    exact Ag.mk' rfl rfl rfl R
