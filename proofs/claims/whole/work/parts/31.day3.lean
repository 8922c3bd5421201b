/-! The days, told -/
theorem gl_s {x : gS} {f : gS → gR} : g_let x f = f x := by rw [g_let]
theorem gl_i {x : Int32} {f : Int32 → gR} : g_leti x f = f x := by rw [g_leti]
section DAY
variable {w h hr law : Nat} {l th ti : Nat → Nat} {lick : Option Nat}
theorem day_step {c m : gS} {p sd : Nat} {gr fg : Nat → Nat} {noon : Option Nat} (L : LR c m w h hr l th ti) (P : PR c m 22 1 0 (w * h) gr fg (some p) noon lick law sd) :
    ∃ (c' m' : gS) (gr' : Nat → Nat) (t sd' : Nat), Sm [22, 23, 24] c c' ∧ (∀ k, k ≠ 1 → m'.1 k = m.1 k) ∧ PR c' m' 22 1 0 (w * h) gr' fg (some t) (some t) lick law sd' ∧ f_X4_passDay 22 c = some (none, c') ∧
      ∀ (V i n : Nat) (k : Int32 → gS → gR), i < V → V < 2 ^ 31 → f_X10_day_28 (nI V) k (n + 1) (nI i) m = f_X10_day_28 (nI V) k n (nI (i + 1)) m' := by
  have hn := L.1.1.n
  have C := L.cx P
  obtain ⟨MXx, F⟩ := L.mx P
  have hp : p < w * h := C.2.2.2.2.2.2.2.2.2.2.2 p rfl
  have hhr := C.2.2.2.2.2.1
  have q9 := P.2.2.2.2.2.2.2.2
  have q9' : m.1 1 87 = nI sd := by simpa using q9.2.1
  obtain ⟨t, sd', gr1, cA, mA, CA, KA, hcA, hmA, hsA, eA, fA⟩ := hours_s L.2.1 MXx.2.2.2.1 hhr.2 hr g_N g_N 0 p sd gr c m (by omega) (by omega) (by unfold g_N; omega) (by unfold g_N; omega) C MXx.2.1 ⟨Sm.rf, fun _ _ _ => rfl⟩ ⟨fun _ _ => rfl, fun _ _ _ => rfl⟩ ⟨q9.1, q9', q9.2.2.1⟩
  have ht : t < w * h := CA.2.2.2.2.2.2.2.2.2.2.2 t rfl
  have hlaw := CA.2.2.2.2.2.2.2.1
  have rowA : ∀ k, k ≠ 22 → k ≠ 23 → cA.1 k = c.1 k := fun k a b => (hcA.1 k (by simp; omega)).1
  have tA : cA.1 22 3 = nI t := CA.2.2.2.2.2.2.2.2.2.2.1
  have lA : cA.1 22 9 = nI law := CA.2.2.2.2.2.2.1
  -- the class, after its hours
  have c4 : ∃ c4, c4 = (g_si (g_si (g_si (g_si cA 22 4 (nI t)) 22 6 (cA.1 22 6 + nI (tS ti law w 0 t (w * h)))) 22 7 (cA.1 22 7 + nI (tS ti law w 1 t (w * h)))) 22 8 (cA.1 22 8 + 1)) := ⟨_, rfl⟩
  obtain ⟨c4, e4⟩ := c4
  have r4 : ∀ k, k ≠ 22 → c4.1 k = cA.1 k := fun k hk => by rw [e4, sir hk, sir hk, sir hk, sir hk]
  obtain ⟨c5, g1, g2, g3⟩ := grow_c (c0 := c4) (n0 := w * h) (gr := gr1) (fg := fg) (k := fun _ s => some (none, s)) hn (fun q hq => by
    rw [r4 23 (by decide), r4 24 (by decide), rowA 24 (by decide) (by decide)]
    exact ⟨(CA.2.2.2.1 q hq).1, (CA.2.2.2.1 q hq).2, (P.1 q hq).2.2.2.1, (P.1 q hq).2.2.2.2.2⟩) g_N 0 c4 (by omega) (by unfold g_N; omega) Sm.rf (fun q _ a => absurd a (by omega)) (fun _ _ => rfl)
  have hL : ∀ s : gS, (∀ k, k ≠ 22 → s.1 k = cA.1 k) → Ld s 14 w h ∧ ∀ q, q < w * h → s.1 (14 + 5) q = nI (ti q) ∧ ti q ≤ 99 := fun s hs => ⟨CA.1.congr (fun k a b => hs k (by omega)), fun q hq => by rw [hs (14 + 5) (by decide)]; exact CA.2.2.1 q hq⟩
  have ec : f_X4_passDay 22 c = some (none, c5) := by
    unfold f_X4_passDay
    rw [c32_0, eA]
    simp only [g_let]
    have s7 := hL (g_si cA 22 4 (nI t)) (fun k hk => sir hk)
    have s10 := hL (g_si (g_si cA 22 4 (nI t)) 22 6 (cA.1 22 6 + nI (tS ti law w 0 t (w * h)))) (fun k hk => (sir hk).trans (sir hk))
    rw [tA, si_eq, si_nj (b := 9) (j := 4) (by decide), lA, tithes_c s7.1 s7.2 ht hlaw (by omega), gb_i, si_nj (b := 6) (j := 4) (by decide), si_nj (b := 4) (j := 6) (by decide), si_eq, si_nj (b := 9) (j := 6) (by decide), si_nj (b := 9) (j := 4) (by decide), lA, c32_1, tithes_c s10.1 s10.2 ht hlaw (by omega), gb_i, si_nj (b := 7) (j := 6) (by decide), si_nj (b := 7) (j := 4) (by decide), si_nj (b := 8) (j := 7) (by decide), si_nj (b := 8) (j := 6) (by decide), si_nj (b := 8) (j := 4) (by decide)]
    rw [← c32_1, ← e4]
    unfold f_X4_growByNight
    rw [c32_0, g3]
    rfl
  -- the reference, after its hours
  have m3 : ∃ m3, m3 = (g_si (g_si (g_si mA 1 81 (nI t)) 1 83 (mA.1 1 83 + nI (tS ti law w 0 t (w * h)))) 1 84 (mA.1 1 84 + nI (tS ti law w 1 t (w * h)))) := ⟨_, rfl⟩
  obtain ⟨m3, f4⟩ := m3
  have u3 : ∀ k, k ≠ 1 → m3.1 k = m.1 k := fun k hk => by rw [f4, sir hk, sir hk, sir hk, hmA.1 k hk]
  have v3 : ∀ j, j ≠ 81 → j ≠ 83 → j ≠ 84 → m3.1 1 j = mA.1 1 j := fun j a b d => by rw [f4, si_nj d, si_nj b, si_nj a]
  have M3 : Md m3 w h := by have := L.2.1; unfold Md at *; rw [u3 0 (by decide)]; exact this
  obtain ⟨m5, a1, a2, a3, a4⟩ := grow_m (m0 := m3) (gr := gr1) (fg := fg) M3 (fun q hq => by
    have hf := F q hq
    rw [v3 q (by omega) (by omega) (by omega), v3 (40 + q) (by omega) (by omega) (by omega), hmA.2 (40 + q) (by omega) (by omega)]
    exact ⟨(KA.2.2.1 q hq).1, (KA.2.2.1 q hq).2, hf.1, hf.2⟩) g_N 0 m3 (by omega) (by unfold g_N; omega) (fun _ _ => rfl) (fun _ _ => rfl) (fun q a => absurd a (by omega)) (fun _ _ => rfl)
  have b81 : m3.1 1 81 = nI t := by rw [f4, si_nj (by decide), si_nj (by decide), si_eq]
  have b83 : m3.1 1 83 = m.1 1 83 + nI (tS ti law w 0 t (w * h)) := by rw [f4, si_nj (by decide), si_eq, hmA.2 83 (by omega) (by decide)]
  have b84 : m3.1 1 84 = m.1 1 84 + nI (tS ti law w 1 t (w * h)) := by rw [f4, si_eq, hmA.2 84 (by omega) (by decide)]
  have r5 : c5.1 22 = c4.1 22 := (g1 22 (by simp)).1
  refine ⟨c5, g_si (g_si m5 1 80 (nI t)) 1 85 (m5.1 1 85 + 1), grw gr1 fg, t, sd', ?_, ?_, ⟨fun q hq => ?_, ?_, ?_, ?_, ?_, ?_, ?_, ?_, ?_⟩, ec, ?_⟩
  · have h1 : Sm [22, 23, 24] c cA := hcA.1.mono (fun k hk => by simp at hk ⊢; omega)
    have h2 : Sm [22, 23, 24] cA c4 := by rw [e4]; exact ((((Sm.si (by simp)).tr (Sm.si (by simp))).tr (Sm.si (by simp))).tr (Sm.si (by simp)))
    exact (h1.tr h2).tr (g1.mono (fun k hk => by simp at hk ⊢; omega))
  · intro k hk
    rw [sir hk, sir hk, a1 k hk, u3 k hk]
  · have hf := P.1 q hq
    have hf' := F q hq
    rw [show (22 + 1 : Nat) = 23 from rfl, show (22 + 2 : Nat) = 24 from rfl, g2 q hq, (g1 24 (by simp)).1, r4 24 (by decide), rowA 24 (by decide) (by decide), Nat.zero_add, Nat.zero_add, si_nj (by omega), si_nj (by omega), si_nj (by omega), si_nj (by omega), a3 q hq, a2 (40 + q) (by omega), v3 (40 + q) (by omega) (by omega) (by omega), hmA.2 (40 + q) (by omega) (by omega)]
    exact ⟨rfl, rfl, grw_le (CA.2.2.2.1 q hq).2 hf'.2, hf.2.2.2.1, hf'.1, hf'.2⟩
  · refine ⟨?_, ?_, fun q hq => by cases hq; exact ht⟩
    · rw [r5, e4, si_nj (by decide), si_nj (by decide), si_nj (by decide), si_nj (by decide), tA]; rfl
    · rw [Nat.zero_add, si_nj (by decide), si_eq]; rfl
  · refine ⟨?_, ?_, fun q hq => by cases hq; exact ht⟩
    · rw [r5, e4, si_nj (by decide), si_nj (by decide), si_nj (by decide), si_eq]; rfl
    · rw [Nat.zero_add, si_nj (by decide), si_nj (by decide), a2 81 (by omega), b81]; rfl
  · refine ⟨?_, ?_, CA.2.2.2.2.2.2.2.2.2.1⟩
    · rw [r5, e4, si_nj (by decide), si_nj (by decide), si_nj (by decide), si_nj (by decide)]; exact CA.2.2.2.2.2.2.2.2.1
    · rw [Nat.zero_add, si_nj (by decide), si_nj (by decide), a2 82 (by omega), v3 82 (by decide) (by decide) (by decide)]; exact KA.2.2.2.1
  · have := P.2.2.2.2.1
    rw [Nat.zero_add] at this ⊢
    rw [r5, e4, si_nj (by decide), si_nj (by decide), si_eq, si_nj (by decide), si_nj (by decide), a2 83 (by omega), b83, hcA.2 6 (by decide) (by decide), this]
  · have := P.2.2.2.2.2.1
    rw [Nat.zero_add] at this ⊢
    rw [r5, e4, si_nj (by decide), si_eq, si_nj (by decide), si_nj (by decide), a2 84 (by omega), b84, hcA.2 7 (by decide) (by decide), this]
  · have := P.2.2.2.2.2.2.1
    rw [Nat.zero_add] at this ⊢
    rw [r5, e4, si_eq, si_eq, a2 85 (by omega), v3 85 (by decide) (by decide) (by decide), hmA.2 85 (by omega) (by decide), hcA.2 8 (by decide) (by decide), this]
  · refine ⟨?_, ?_, hlaw⟩
    · rw [r5, e4, si_nj (by decide), si_nj (by decide), si_nj (by decide), si_nj (by decide)]; exact lA
    · rw [Nat.zero_add, si_nj (by decide), si_nj (by decide), a2 86 (by omega), v3 86 (by decide) (by decide) (by decide), hmA.2 86 (by omega) (by decide)]; exact MXx.2.2.2.2.2.1
  · refine ⟨?_, ?_, hsA.2.2, fun z => by cases z⟩
    · rw [r5, e4, si_nj (by decide), si_nj (by decide), si_nj (by decide), si_nj (by decide)]; exact hsA.1
    · rw [Nat.zero_add, si_nj (by decide), si_nj (by decide), a2 87 (by omega), v3 87 (by decide) (by decide) (by decide)]; exact hsA.2.1
  · intro V i n k h1 h2
    rw [f_X10_day_28.eq_2, if_neg (by rw [nI_leI (by omega) (by omega)]; omega), show (80 : Int32) = nI 80 from rfl, show (81 : Int32) = nI 81 from rfl, show (83 : Int32) = nI 83 from rfl, show (84 : Int32) = nI 84 from rfl, show (85 : Int32) = nI 85 from rfl, m82 (by omega), m82c (by omega), MXx.2.2.2.2.2.2.2.1, show oI (some p) = nI p from rfl]
    rw [gl_i]
    rw [c32_0, fA, m82 (by omega), m82c (by omega), gl_s, m82 (by omega)]
    have hM : ∀ s : gS, (∀ k, k ≠ 1 → s.1 k = mA.1 k) → s.1 1 86 = mA.1 1 86 → Md s w h ∧ s.1 1 86 = nI law ∧ ∀ q, q < w * h → s.1 5 q = nI (ti q) ∧ ti q ≤ 99 := fun s hs hs2 => ⟨by have := L.2.1; unfold Md at *; rw [hs 0 (by decide), hmA.1 0 (by decide)]; exact this, by rw [hs2, hmA.2 86 (by omega) (by decide)]; exact MXx.2.2.2.2.2.1, fun q hq => by rw [hs 5 (by decide), hmA.1 5 (by decide)]; exact MXx.2.2.1 q hq⟩
    have s1 := hM (g_si mA 1 81 (nI t)) (fun k hk => sir hk) (si_nj (by decide))
    have s2 := hM (g_si (g_si mA 1 81 (nI t)) 1 83 (mA.1 1 83 + nI (tS ti law w 0 t (w * h)))) (fun k hk => (sir hk).trans (sir hk)) (by rw [si_nj (by decide), si_nj (by decide)])
    rw [tithes_m s1.1 s1.2.1 s1.2.2 ht hlaw (by omega), gb_i, m82 (by omega), m82c (by omega), si_nj (b := 83) (j := 81) (by decide), gl_s, m82 (by omega), c32_1, tithes_m s2.1 s2.2.1 s2.2.2 ht hlaw (by omega), gb_i, m82 (by omega), m82c (by omega), si_nj (b := 84) (j := 83) (by decide), si_nj (b := 84) (j := 81) (by decide), gl_s, ← f4, a4, m82 (by omega), m82c (by omega), gl_s, m82 (by omega), m82 (by omega), gl_s, si_nj (b := 85) (j := 80) (by decide), ← c32_1, nI_1]
end DAY
theorem days_l : ∀ (d V n n' i : Nat) (c m : gS) (w h hr : Nat) (l th ti gr fg : Nat → Nat) (p law sd : Nat) (noon lick : Option Nat) (c0 m0 : gS), V - i = d → i ≤ V → V < 2 ^ 31 → d < n → d < n' → LR c m w h hr l th ti → PR c m 22 1 0 (w * h) gr fg (some p) noon lick law sd → Sm [22, 23, 24] c0 c → (∀ k, k ≠ 1 → m.1 k = m0.1 k) →
    ∃ c' m', LR c' m' w h hr l th ti ∧ PX c' m' 22 1 0 (w * h) ∧ Sm [22, 23, 24] c0 c' ∧ (∀ k, k ≠ 1 → m'.1 k = m0.1 k) ∧ (∀ k, f_X9_day_29 (nI V) k n (nI i) c = k (nI V) c') ∧ ∀ k, f_X10_day_28 (nI V) k n' (nI i) m = k (nI V) m' := by
  intro d
  induction d with
  | zero =>
    intro V n n' i c m w h hr l th ti gr fg p law sd noon lick c0 m0 h1 h2 h3 h4 h5 L P S Q
    obtain ⟨n0, rfl⟩ : ∃ k, n = k + 1 := ⟨n - 1, by omega⟩
    obtain ⟨n0', rfl⟩ : ∃ k, n' = k + 1 := ⟨n' - 1, by omega⟩
    have e : i = V := by omega
    subst e
    refine ⟨c, m, L, ⟨gr, fg, some p, noon, lick, law, sd, P⟩, S, Q, fun k => ?_, fun k => ?_⟩
    · rw [f_X9_day_29.eq_2, if_pos ((nI_leI (by omega) (by omega)).mpr (Nat.le_refl _))]
    · rw [f_X10_day_28.eq_2, if_pos ((nI_leI (by omega) (by omega)).mpr (Nat.le_refl _))]
  | succ d ih =>
    intro V n n' i c m w h hr l th ti gr fg p law sd noon lick c0 m0 h1 h2 h3 h4 h5 L P S Q
    obtain ⟨n0, rfl⟩ : ∃ k, n = k + 1 := ⟨n - 1, by omega⟩
    obtain ⟨n0', rfl⟩ : ∃ k, n' = k + 1 := ⟨n' - 1, by omega⟩
    obtain ⟨c1, m1, gr1, t, sd1, a1, a2, a3, a4, a5⟩ := day_step L P
    obtain ⟨c2, m2, b1, b2, b3, b4, b5, b6⟩ := ih V n0 n0' (i + 1) c1 m1 w h hr l th ti gr1 fg t law sd1 (some t) lick c0 m0 (by omega) (by omega) h3 (by omega) (by omega) (L.now a1 a2) a3 (S.tr a1) (fun k hk => (a2 k hk).trans (Q k hk))
    refine ⟨c2, m2, b1, b2, b3, b4, fun k => ?_, fun k => ?_⟩
    · rw [f_X9_day_29.eq_2, if_neg (by rw [nI_leI (by omega) (by omega)]; omega), a4, gb_v, nI_1]
      exact b5 k
    · rw [a5 V i n0' k (by omega) h3]
      exact b6 k
theorem op_day {c m : gS} (R : Rel c m) (v : Int32) : Ag (f_X9_day v c) (f_X10_day v m) := by
  obtain ⟨w, h, hr, l, th, ti, L, ⟨gr, fg, wk, noon, lick, law, sd, P⟩, I0, I1, S, B, T, E⟩ := id R
  have hn := L.1.1.n
  unfold f_X9_day f_X10_day
  rw [c64_1, c32_1, show (99 : Int32) = nI 99 from rfl, show (99 : Int64) = lN 99 from rfl]
  rcases rng2 v 1 99 (by omega) (by omega) with ⟨V, h1, h2, rfl⟩ | ⟨h1, h2⟩
  · rw [if_neg (by rw [nI_ltI (by omega) (by omega)]; omega), if_pos (nI_le h2 (by omega)), in_y h1 h2 (by omega), gb_i, i10, cells_m L.2.1, gb_i, L.1.2.2.2.1]
    by_cases h0 : w * h = 0
    · rw [if_pos (by rw [n0_c (by omega)]; exact h0), if_pos (by rw [n0_c (by omega)]; exact h0)]
      exact Ag.mk' rfl rfl rfl R
    rw [if_neg (by rw [n0_c (by omega)]; exact h0), if_neg (by rw [n0_c (by omega)]; exact h0)]
    cases wk with
    | none => exact absurd (P.2.2.2.2.2.2.2.2.2.2.2 rfl) h0
    | some p =>
      obtain ⟨c', m', a1, a2, a3, a4, a5, a6⟩ := days_l V V g_N g_N 0 c m w h hr l th ti gr fg p law sd noon lick c m (by omega) (by omega) (by omega) (by unfold g_N; omega) (by unfold g_N; omega) L P Sm.rf (fun _ _ => rfl)
      have R' : Rel c' m' := Rel.now L I0 I1 S B T E a3 a4 a2
      obtain ⟨gr', fg', wk', noon', lick', law', sd', P'⟩ := a2
      have e6 : m'.1 1 81 = oI noon' := by simpa using P'.2.2.1.2.1
      rw [c32_0, a5, a6, P'.2.2.1.1, place_c a1.1 P'.2.2.1.2.2, gb_i, show (81 : Int32) = nI 81 from rfl, m82 (by omega), m82c (by omega), e6, named_m a1.2.1 P'.2.2.1.2.2, gb_i]
      exact Ag.mk' rfl rfl rfl R'
  · rw [in_n (by omega) (by omega) h2, gb_i, i00]
    by_cases q : v < nI 1
    · rw [if_pos q]; exact Ag.mk' rfl rfl rfl R
    · rw [if_neg q, if_neg (fun q2 => h2 ⟨Int32.not_lt.mp q, q2⟩)]
      exact Ag.mk' rfl rfl rfl R
