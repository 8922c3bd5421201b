/-! Feeding the text -/
theorem byt_eq (X : Int64) : (X &&& (255 : Int64)).toInt32 = X.toInt32 &&& (255 : Int32) := by
  rw [Int64.toInt32_and]
  rfl
theorem Rel.tx {c c' m m' : gS} (R : Rel c m) (hc : Sm [1, 2] c c') (h0 : ∀ j, j ≠ 16 → m'.1 0 j = m.1 0 j) (hm : ∀ k, k ≠ 0 → k ≠ 11 → m'.1 k = m.1 k) (T' : TX c' m') : Rel c' m' := by
  have e : ∀ k, k ∉ [1, 2] → c'.1 k = c.1 k := fun k hk => (hc k hk).1
  obtain ⟨w, h, hr, l, th, ti, L, P, I0, I1, S, B, T, E⟩ := R
  refine ⟨w, h, hr, l, th, ti, ?_, ?_, ?_, ?_, ?_, ?_, T', ?_⟩
  · obtain ⟨a1, a2, a3, a4, a5, a6, a7⟩ := L
    unfold Md at a2
    refine ⟨a1.congr (fun k x y => e k (by simp; omega)), ?_, ?_, a4.congr (fun k x y => e k (by simp; omega)), ?_, ?_, ?_⟩
    · unfold Md; rw [h0 3 (by decide), h0 4 (by decide)]; exact a2
    · rw [e 14 (by decide), h0 7 (by decide)]; exact a3
    · rw [hm 6 (by decide) (by decide)]; exact a5
    · rw [hm 4 (by decide) (by decide)]; exact a6
    · rw [e 19 (by decide), hm 5 (by decide) (by decide)]; exact a7
  · unfold PX PR at *; rw [e 22 (by decide), e (22 + 1) (by decide), e (22 + 2) (by decide), hm 1 (by decide) (by decide)]; exact P
  · unfold IM PX PR at *; rw [e (25 + 4 * 0) (by decide), e (26 + 4 * 0) (by decide), e (26 + 4 * 0 + 1) (by decide), e (26 + 4 * 0 + 2) (by decide), hm 3 (by decide) (by decide), hm 2 (by decide) (by decide)]; exact I0
  · unfold IM PX PR at *; rw [e (25 + 4 * 1) (by decide), e (26 + 4 * 1) (by decide), e (26 + 4 * 1 + 1) (by decide), e (26 + 4 * 1 + 2) (by decide), hm 3 (by decide) (by decide), hm 2 (by decide) (by decide)]; exact I1
  · unfold SN at *; rw [e 41 (by decide), e 42 (by decide), e 43 (by decide), h0 11 (by decide), hm 7 (by decide) (by decide), hm 8 (by decide) (by decide)]; exact S
  · unfold BK at *; rw [e 46 (by decide), e 47 (by decide), e 48 (by decide), h0 14 (by decide), hm 9 (by decide) (by decide), hm 10 (by decide) (by decide)]; exact B
  · rw [e 3 (by decide), h0 17 (by decide)]; exact E
theorem feed_l {c0 m0 : gS} {v2 : Int64} {V : Nat} (hV : V ≤ 8) : ∀ (d n n' i len : Nat) (c m : gS), i + d = V → d < n → d < n' → len + d ≤ 500 → Sm [1, 2] c0 c → (∀ j, j ≠ 16 → m.1 0 j = m0.1 0 j) → (∀ k, k ≠ 0 → k ≠ 11 → m.1 k = m0.1 k) → c.1 1 1 = nI len → m.1 0 16 = nI len → (∀ k, k < len → c.1 2 k = m.1 11 k) →
    ∃ c' m', Sm [1, 2] c0 c' ∧ (∀ j, j ≠ 16 → m'.1 0 j = m0.1 0 j) ∧ (∀ k, k ≠ 0 → k ≠ 11 → m'.1 k = m0.1 k) ∧ c'.1 1 1 = nI (len + d) ∧ m'.1 0 16 = nI (len + d) ∧ (∀ k, k < len + d → c'.1 2 k = m'.1 11 k) ∧ (∀ k, f_X9_feed_37 v2 k n (nI d - 1) c = k (-1) c') ∧ ∀ k, f_X10_feed_33 (nI V) v2 k n' (nI i) m = k (nI V) m' := by
  intro d
  induction d with
  | zero =>
    intro n n' i len c m h1 h2 h3 h4 hS h0 hm e1 e2 e3
    obtain ⟨n0, rfl⟩ : ∃ k, n = k + 1 := ⟨n - 1, by omega⟩
    obtain ⟨n0', rfl⟩ : ∃ k, n' = k + 1 := ⟨n' - 1, by omega⟩
    have e : i = V := by omega
    subst e
    refine ⟨c, m, hS, h0, hm, e1, e2, e3, fun k => ?_, fun k => ?_⟩
    · rw [f_X9_feed_37.eq_2, show nI 0 - 1 = -1 by decide, if_pos (by decide)]
    · rw [f_X10_feed_33.eq_2, if_pos ((nI_leI (by omega) (by omega)).mpr (Nat.le_refl _))]
  | succ d ih =>
    intro n n' i len c m h1 h2 h3 h4 hS h0 hm e1 e2 e3
    obtain ⟨n0, rfl⟩ : ∃ k, n = k + 1 := ⟨n - 1, by omega⟩
    obtain ⟨n0', rfl⟩ : ∃ k, n' = k + 1 := ⟨n' - 1, by omega⟩
    have hx : nI (d + 1) - 1 = nI d := by rw [c32_1, pk_sub (by omega)]; rfl
    have hy : nI d + (-1) = nI d - 1 := by rw [Int32.sub_eq_add_neg]
    have hz : nI V - 1 - nI i = nI d := by rw [c32_1, pk_sub (by omega), pk_sub (by omega)]; congr 1; omega
    obtain ⟨c', m', a1, a2, a3, a4, a5, a6, a7, a8⟩ := ih n0 n0' (i + 1) (len + 1) (g_si (g_si c 2 len (((v2.toUInt64 >>> (((8 : Int32) * nI d).toInt64.toUInt64 &&& Int64.toUInt64 63)).toInt64).toInt32 &&& 255)) 1 1 (nI (len + 1))) (g_si (g_si m 11 len (((v2.toUInt64 >>> (((8 : Int32) * nI d).toInt64.toUInt64 &&& Int64.toUInt64 63)).toInt64).toInt32 &&& 255)) 0 16 (nI (len + 1))) (by omega) (by omega) (by omega) (by omega) ((hS.tr (Sm.si (by simp))).tr (Sm.si (by simp))) (fun j hj => by rw [si_nj hj, sir (by decide)]; exact h0 j hj) (fun k x y => by rw [sir x, sir y]; exact hm k x y) (by rw [si_eq]) (by rw [si_eq]) (fun k hk => by
      rw [sir (a := 2) (k := 1) (by decide), sir (a := 11) (k := 0) (by decide)]
      by_cases e : k = len
      · subst e; rw [si_eq, si_eq]
      · rw [si_nj e, si_nj e]; exact e3 k (by omega))
    refine ⟨c', m', a1, a2, a3, by rw [a4]; congr 1; omega, by rw [a5]; congr 1; omega, fun k hk => a6 k (by omega), fun k => ?_, fun k => ?_⟩
    · rw [f_X9_feed_37.eq_2, hx, if_neg (nI_n0 (by omega))]
      unfold f_X7_add
      rw [e1, if_neg (nI_n0 (by omega)), show (500 : Int32) = nI 500 from rfl, if_pos ((nI_ltI (by omega) (by omega)).mpr (by omega)), g_ixn (by omega) (by omega), nI_clamp (by omega), gl_s, gl_s, gb_v, sir (a := 1) (k := 2) (by decide), e1, nI_1, hy]
      exact a7 k
    · rw [f_X10_feed_33.eq_2, if_neg (by rw [nI_leI (by omega) (by omega)]; omega), e2, g_ixn (by omega) (by omega), nI_clamp (by omega), hz, byt_eq, gl_s, gl_s, sir (a := 0) (k := 11) (by decide), e2, nI_1, nI_1]
      exact a8 k
theorem op_feed {c m : gS} (R : Rel c m) (v : Int32) (x : Int64) : Ag (f_X9_feed v x c) (f_X10_feed v x m) := by
  obtain ⟨w, h, hr, l, th, ti, L, P, I0, I1, S, B, T, E⟩ := id R
  obtain ⟨len, t1, t2, t3, t4⟩ := T
  unfold f_X9_feed f_X10_feed
  rw [c64_1, show (8 : Int64) = lN 8 from rfl]
  rcases rng2 v 1 8 (by omega) (by omega) with ⟨V, h1, h2, rfl⟩ | ⟨h1, h2⟩
  · rw [in_y h1 h2 (by omega), gb_i, i10, if_neg (by rw [c32_1, nI_ltI (by omega) (by omega)]; omega), if_pos (show nI V ≤ 8 from nI_le (b := 8) h2 (by omega)), t2, t3, nI_add, show (500 : Int32) = nI 500 from rfl]
    by_cases e : len + V ≤ 500
    · rw [if_pos ((nI_leI (by omega) (by omega)).mpr e), if_pos ((nI_leI (by omega) (by omega)).mpr e), gl_i]
      obtain ⟨c', m', a1, a2, a3, a4, a5, a6, a7, a8⟩ := feed_l (c0 := c) (m0 := m) (v2 := x) h2 V g_N g_N 0 len c m (by omega) (by unfold g_N; omega) (by unfold g_N; omega) e Sm.rf (fun _ _ => rfl) (fun _ _ _ => rfl) t2 t3 t4
      rw [a7, c32_0, a8]
      exact Ag.mk' rfl rfl (by rw [a4, a5]) (R.tx a1 a2 a3 ⟨len + V, e, a4, a5, a6⟩)
    · rw [if_neg (by rw [nI_leI (by omega) (by omega)]; exact e), if_neg (by rw [nI_leI (by omega) (by omega)]; exact e)]
      exact Ag.mk' rfl rfl rfl R
  · rw [in_n (by omega) (by omega) h2, gb_i, i00]
    by_cases q : v < 1
    · rw [if_pos q]; exact Ag.mk' rfl rfl rfl R
    · rw [if_neg q, if_neg (fun q2 : v ≤ 8 => h2 ⟨Int32.not_lt.mp q, q2⟩)]
      exact Ag.mk' rfl rfl rfl R
