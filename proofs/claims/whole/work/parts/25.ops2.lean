/-! Calls that look at cells; sown, seen, written, judged -/
theorem likNow {c : gS} {w h hr law q : Nat} {l th ti gr : Nat → Nat} {lick wk : Option Nat} (C : CX c w h hr law l th ti gr lick wk) (hq : q < w * h) : f_X4_likingNow 22 (nI q) c = some (some (.int (nI (lkF l th gr lick q))), c) := by
  have hn := C.1.1.n
  have hg := C.2.2.2.1 q hq
  have hlk := C.2.2.2.2.2.2.2.2.2.1
  have hcase : (nI q = oI lick) = (lick = some q) := by
    rw [← oI_eq (o := lick) (q := q) (by omega) (fun j hj => by have := hlk j hj; omega)]
    exact propext ⟨fun e => e.symm, fun e => e.symm⟩
  unfold f_X4_likingNow
  rw [has_in C.1 hq, gb_i, i10, g_ixn (by omega) (by omega), C.2.2.2.2.2.2.2.2.1, nI_clamp (by omega), show (22 + 1 : Nat) = 23 from rfl, hg.1]
  simp only [hcase]
  by_cases hk : lick = some q
  · rw [if_pos hk]
    have h3 := liking_c (b := true) C.1 C.2.1 hq hg.2
    simp only [if_true] at h3
    rw [h3, gb_i]
    unfold lkF; rw [if_pos hk]
  · rw [if_neg hk]
    have h3 := liking_c (b := false) C.1 C.2.1 hq hg.2
    simp only [Bool.false_eq_true, if_false] at h3
    rw [h3, gb_i]
    unfold lkF; rw [if_neg hk]
theorem op_cell {c m : gS} (R : Rel c m) (x y v : Int32) : Ag (f_X9_cell x y v c) (f_X10_cell x y v m) := by
  obtain ⟨w, h, hr, l, th, ti, L, ⟨gr, fg, wk, noon, lick, law, sd, P⟩, I0, I1, S, B, T, E⟩ := id R
  have hn := L.1.1.n
  unfold f_X9_cell f_X10_cell
  by_cases hin : inR w h x y
  · obtain ⟨q, hq, rfl, rfl⟩ := hin
    obtain ⟨p1, p2, p3, p4, p5, p6⟩ := P.1 q hq
    rw [Nat.zero_add] at p2 p5
    obtain ⟨C, F⟩ := L.mx P
    rw [cellAt_in L.1 hq, gb_i, has_in L.1 hq, gb_i, i10, isCell_in L.2.1 hq, gb_i, i10, cell_m L.2.1 hq]
    simp only [g_leti]
    by_cases h0 : v = 0
    · rw [if_pos h0, if_pos h0, g_ixn (by omega) (by omega), nI_clamp (by omega), c32_0, nI_add, Nat.zero_add, g_ixn (by omega) (by omega), nI_clamp (by omega)]
      exact Ag.mk' rfl rfl (by rw [p2]; exact p1) R
    rw [if_neg h0, if_neg h0]
    by_cases h1 : v = 1
    · rw [if_pos h1, if_pos h1, g_ixn (by omega) (by omega), nI_clamp (by omega), c32_40, nI_add, g_ixn (by omega) (by omega), nI_clamp (by omega)]
      exact Ag.mk' rfl rfl (by rw [p5]; exact p4) R
    rw [if_neg h1, if_neg h1]
    by_cases h2 : v = 2
    · rw [if_pos h2, if_pos h2, g_ixn (by omega) (by omega), nI_clamp (by omega), g_ixn (by omega) (by omega)]
      exact Ag.mk' rfl rfl (by rw [L.2.2.2.2.2.1 q hq]; exact (L.2.2.2.1.2 q hq).1) R
    rw [if_neg h2, if_neg h2]
    by_cases h3 : v = 3
    · rw [if_pos h3, if_pos h3, g_ixn (by omega) (by omega), nI_clamp (by omega), g_ixn (by omega) (by omega)]
      exact Ag.mk' rfl rfl (by rw [(L.2.2.2.2.2.2 q hq).1, (L.2.2.2.2.2.2 q hq).2.1]) R
    rw [if_neg h3, if_neg h3]
    by_cases h4 : v = 4
    · rw [if_pos h4, if_pos h4, likNow (L.cx P) hq, gb_i, liking_m C.2.1 hn hq, gb_i]
      exact Ag.mk' rfl rfl rfl R
    rw [if_neg h4, if_neg h4]
    exact Ag.mk' rfl rfl rfl R
  · rw [cellAt_out L.1 hin, gb_i, has_no, gb_i, i00, isCell_out L.2.1 hin, gb_i, i00]
    exact Ag.mk' rfl rfl rfl R
theorem op_tithes {c m : gS} (R : Rel c m) (v x y : Int32) : Ag (f_X9_tithes v x y c) (f_X10_tithes v x y m) := by
  obtain ⟨w, h, hr, l, th, ti, L, ⟨gr, fg, wk, noon, lick, law, sd, P⟩, I0, I1, S, B, T, E⟩ := id R
  have hn := L.1.1.n
  have Cc := L.cx P
  obtain ⟨C, F⟩ := L.mx P
  unfold f_X9_tithes f_X10_tithes
  rcases rng2 v 0 1 (by omega) (by omega) with ⟨p, h1, h2, rfl⟩ | ⟨h1, h2⟩
  · by_cases hin : inR w h x y
    · obtain ⟨q, hq, rfl, rfl⟩ := hin
      rw [cellAt_in L.1 hq, gb_i, isPar_c (by omega), gb_i, i10, has_in L.1 hq, gb_i, i10, Cc.2.2.2.2.2.2.1, tithes_c L.1 Cc.2.2.1 hq Cc.2.2.2.2.2.2.2.1 (by omega), gb_i, isPar_m (by omega), gb_i, i10, isCell_in L.2.1 hq, gb_i, i10, cell_m L.2.1 hq, tithes_m L.2.1 C.2.2.2.2.2.1 C.2.2.1 hq C.2.2.2.2.2.2.1 (by omega), gb_i]
      exact Ag.mk' rfl rfl rfl R
    · rw [cellAt_out L.1 hin, gb_i, isPar_c (by omega), gb_i, i10, has_no, gb_i, i00, isPar_m (by omega), gb_i, i10, isCell_out L.2.1 hin, gb_i, i00]
      exact Ag.mk' rfl rfl rfl R
  · rw [isPar_mn h2, gb_i, i00]
    by_cases hin : inR w h x y
    · obtain ⟨q, hq, rfl, rfl⟩ := hin
      rw [cellAt_in L.1 hq, gb_i, isPar_cn h2, gb_i, i00]
      exact Ag.mk' rfl rfl rfl R
    · rw [cellAt_out L.1 hin, gb_i, isPar_cn h2, gb_i, i00]
      exact Ag.mk' rfl rfl rfl R
theorem op_sow {c m : gS} (R : Rel c m) (x y v : Int32) : Ag (f_X9_sow x y v c) (f_X10_sow x y v m) := by
  obtain ⟨w, h, hr, l, th, ti, L, ⟨gr, fg, wk, noon, lick, law, sd, P⟩, I0, I1, S, B, T, E⟩ := id R
  have hn := L.1.1.n
  unfold f_X9_sow f_X10_sow
  by_cases hin : inR w h x y
  · obtain ⟨q, hq, rfl, rfl⟩ := hin
    obtain ⟨p1, p2, p3, p4, p5, p6⟩ := P.1 q hq
    rw [Nat.zero_add] at p2 p5
    rw [cellAt_in L.1 hq, gb_i, has_in L.1 hq, gb_i, i10, isCell_in L.2.1 hq, gb_i, i10, c64_1, show (9 : Int64) = lN 9 from rfl]
    rcases rng2 v 1 9 (by omega) (by omega) with ⟨k, h1, h2, rfl⟩ | ⟨h1, h2⟩
    · rw [isClo_c h1 h2, gb_i, i10, in_y h1 h2 (by omega), gb_i, i10, cell_m L.2.1 hq, sow_m (by omega) p2 p5 p3 p6 (by omega), gb_v]
      have e23 : c.1 23 q = nI (gr q) := p1
      have e24 : c.1 24 q = nI (fg q) := p4
      rw [g_ixn (by omega) (by omega), nI_clamp (by omega), e23, sown_c (by omega) (by omega), gb_i, g_ixn (by omega) (by omega)]
      simp only [g_let]
      rw [g_ixn (by omega) (by omega), sir (a := 24) (k := 23) (by decide), e24, sown_c (by omega) (by omega), gb_i, g_ixn (by omega) (by omega), g_ixn (by omega) (by omega)]
      have em : ∀ s : gS, s.1 0 3 = nI w → (0 : Int32) + s.1 0 3 * nI (q / w) + nI (q % w) = nI q := fun s hs => by
        rw [hs, c32_0, pk_mul, nI_add, nI_add, Nat.zero_add, Nat.div_add_mod]
      rw [em _ (by rw [sir (by decide), sir (by decide)]; exact L.2.1.2.1), g_ixn (by omega) (by omega), nI_clamp (by omega)]
      refine Ag.mk' rfl rfl ?_ (Rel.now L I0 I1 S B T E ((Sm.si (by simp)).tr (Sm.si (by simp))) (fun k hk => (sir hk).trans (sir hk)) ⟨updN gr q (min 18 (gr q + k)), updN fg q (min 18 (fg q + k)), wk, noon, lick, law, sd, ?_, ?_, ?_, ?_, ?_, ?_, ?_, ?_, ?_⟩)
      · rw [sir (a := 23) (k := 24) (by decide), si_eq, si_nj (by omega), si_eq]
      · intro j hj
        obtain ⟨j1, j2, j3, j4, j5, j6⟩ := P.1 j hj
        rw [Nat.zero_add] at j2 j5
        rw [show (22 + 1 : Nat) = 23 from rfl, show (22 + 2 : Nat) = 24 from rfl, Nat.zero_add, Nat.zero_add, sir (a := 23) (k := 24) (by decide)]
        by_cases e : j = q
        · subst e
          rw [si_eq, si_eq, si_eq, updN_eq, updN_eq, si_nj (by omega), si_eq]
          exact ⟨rfl, rfl, Nat.min_le_left _ _, rfl, rfl, Nat.min_le_left _ _⟩
        · rw [updN_ne e, updN_ne e, si_nj e, si_nj e, sir (a := 24) (k := 23) (by decide), si_nj (b := j) (by omega), si_nj e, si_nj (b := 40 + j) (by omega), si_nj (b := 40 + j) (by omega)]
          exact ⟨j1, j2, j3, j4, j5, j6⟩
      · rw [sir (by decide), sir (by decide), si_nj (by omega), si_nj (by omega)]; exact P.2.1
      · rw [sir (by decide), sir (by decide), si_nj (by omega), si_nj (by omega)]; exact P.2.2.1
      · rw [sir (by decide), sir (by decide), si_nj (by omega), si_nj (by omega)]; exact P.2.2.2.1
      · rw [sir (by decide), sir (by decide), si_nj (by omega), si_nj (by omega)]; exact P.2.2.2.2.1
      · rw [sir (by decide), sir (by decide), si_nj (by omega), si_nj (by omega)]; exact P.2.2.2.2.2.1
      · rw [sir (by decide), sir (by decide), si_nj (by omega), si_nj (by omega)]; exact P.2.2.2.2.2.2.1
      · rw [sir (by decide), sir (by decide), si_nj (by omega), si_nj (by omega)]; exact P.2.2.2.2.2.2.2.1
      · rw [sir (by decide), sir (by decide), si_nj (by omega), si_nj (by omega)]; exact P.2.2.2.2.2.2.2.2
    · rw [isClo_cn h1, gb_i, i00, in_n (by omega) (by omega) h2, gb_i, i00]
      exact Ag.mk' rfl rfl rfl R
  · rw [cellAt_out L.1 hin, gb_i, has_no, gb_i, i00, isCell_out L.2.1 hin, gb_i, i00]
    exact Ag.mk' rfl rfl rfl R
theorem Rel.sbk {c c' m m' : gS} {w h hr : Nat} {l th ti : Nat → Nat} (L : LR c m w h hr l th ti) (P : PX c m 22 1 0 (w * h)) (I0 : IM c m (w * h) 0) (I1 : IM c m (w * h) 1) (T : TX c m) (E : c.1 3 10 = m.1 0 17) (hc : Sm [41, 42, 43, 46, 47, 48] c c') (hm0 : ∀ j, j ≠ 11 → j ≠ 14 → m'.1 0 j = m.1 0 j) (hm : ∀ k, k ∉ [0, 7, 8, 9, 10] → m'.1 k = m.1 k) (S : SN c' m' (w * h)) (B : BK c' m' (w * h)) : Rel c' m' := by
  have e : ∀ k, k ∉ [41, 42, 43, 46, 47, 48] → c'.1 k = c.1 k := fun k hk => (hc k hk).1
  refine ⟨w, h, hr, l, th, ti, ?_, ?_, ?_, ?_, S, B, ?_, ?_⟩
  · obtain ⟨a1, a2, a3, a4, a5, a6, a7⟩ := L
    unfold Md at a2
    refine ⟨a1.congr (fun k x y => e k (by simp; omega)), ?_, ?_, a4.congr (fun k x y => e k (by simp; omega)), ?_, ?_, ?_⟩
    · unfold Md; rw [hm0 3 (by decide) (by decide), hm0 4 (by decide) (by decide)]; exact a2
    · rw [e 14 (by decide), hm0 7 (by decide) (by decide)]; exact a3
    · rw [hm 6 (by decide)]; exact a5
    · rw [hm 4 (by decide)]; exact a6
    · rw [e 19 (by decide), hm 5 (by decide)]; exact a7
  · unfold PX PR at *; rw [e 22 (by decide), e (22 + 1) (by decide), e (22 + 2) (by decide), hm 1 (by decide)]; exact P
  · unfold IM PX PR at *; rw [e (25 + 4 * 0) (by decide), e (26 + 4 * 0) (by decide), e (26 + 4 * 0 + 1) (by decide), e (26 + 4 * 0 + 2) (by decide), hm 3 (by decide), hm 2 (by decide)]; exact I0
  · unfold IM PX PR at *; rw [e (25 + 4 * 1) (by decide), e (26 + 4 * 1) (by decide), e (26 + 4 * 1 + 1) (by decide), e (26 + 4 * 1 + 2) (by decide), hm 3 (by decide), hm 2 (by decide)]; exact I1
  · unfold TX at *; rw [e 1 (by decide), e 2 (by decide), hm0 16 (by decide) (by decide), hm 11 (by decide)]; exact T
  · rw [e 3 (by decide), hm0 17 (by decide) (by decide)]; exact E
theorem op_tear {c m : gS} (R : Rel c m) : Ag (f_X9_tear c) (f_X10_tear m) := by
  obtain ⟨w, h, hr, l, th, ti, L, P, I0, I1, S, B, T, E⟩ := id R
  obtain ⟨ns, s1, s2, s3, s4⟩ := S
  obtain ⟨nb, b1, b2, b3, b4⟩ := B
  unfold f_X9_tear f_X10_tear
  simp only [g_leti, g_let]
  refine Ag.mk' rfl rfl (by rw [s2, s3, b2, b3]) (Rel.sbk L P I0 I1 T E ((Sm.si (by simp)).tr (Sm.si (by simp))) (fun j h1 h2 => by rw [si_nj h1, si_nj h2]) (fun k hk => by have hk0 : k ≠ 0 := (fun z => hk (by rw [z]; simp)); rw [sir hk0, sir hk0]) ?_ ?_)
  · exact ⟨0, by omega, by rw [si_eq]; rfl, by rw [si_eq]; rfl, fun k hk => absurd hk (by omega)⟩
  · exact ⟨0, by omega, by rw [sir (by decide), si_eq]; rfl, by rw [si_nj (by decide), si_eq]; rfl, fun k hk => absurd hk (by omega)⟩
theorem op_see {c m : gS} (R : Rel c m) (x y v : Int32) : Ag (f_X9_see x y v c) (f_X10_see x y v m) := by
  obtain ⟨w, h, hr, l, th, ti, L, P, I0, I1, S, B, T, E⟩ := id R
  have hn := L.1.1.n
  obtain ⟨ns, s1, s2, s3, s4⟩ := id S
  unfold f_X9_see f_X10_see
  by_cases hin : inR w h x y
  · obtain ⟨q, hq, rfl, rfl⟩ := hin
    rw [cellAt_in L.1 hq, gb_i, has_in L.1 hq, gb_i, i10, isCell_in L.2.1 hq, gb_i, i10, c64_0, show (12 : Int64) = lN 12 from rfl]
    rcases rng2 v 0 12 (by omega) (by omega) with ⟨k, h1, h2, rfl⟩ | ⟨h1, h2⟩
    · rw [isHr_c h2, gb_i, i10, in_y h1 h2 (by omega), gb_i, i10, s2, s3, cell_m L.2.1 hq, show (10 : Int32) = nI 10 from rfl]
      by_cases hf : ns < 10
      · rw [if_pos ((nI_ltI (by omega) (by omega)).mpr hf), if_neg (by rw [nI_eq (by omega) (by omega)]; omega), g_ixn (by omega) (by omega), nI_clamp (by omega)]
        unfold f_X6_add
        rw [s2, show (10 : Int32) = nI 10 from rfl, if_neg (nI_n0 (by omega)), if_pos ((nI_ltI (by omega) (by omega)).mpr hf), g_ixn (by omega) (by omega), nI_clamp (by omega)]
        simp only [g_let]
        rw [sir (a := 41) (k := 42) (by decide), s2, g_ixn (by omega) (by omega), nI_clamp (by omega), sir (a := 0) (k := 7) (by decide), s3, g_ixn (by omega) (by omega), nI_clamp (by omega), gb_v]
        rw [sir (a := 41) (k := 43) (by decide), sir (a := 41) (k := 42) (by decide), s2, sir (a := 0) (k := 8) (by decide), sir (a := 0) (k := 7) (by decide), s3, nI_1]
        refine Ag.mk' rfl rfl (by rw [si_eq, si_eq]) (Rel.sbk L P I0 I1 T E (((Sm.si (by simp)).tr (Sm.si (by simp))).tr (Sm.si (by simp))) (fun j h1 h2 => by rw [si_nj h1, sir (by decide), sir (by decide)]) (fun k hk => by simp at hk; rw [sir hk.1, sir hk.2.2.1, sir hk.2.1]) ?_ ?_)
        · refine ⟨ns + 1, by omega, by rw [si_eq], by rw [si_eq], fun j hj => ?_⟩
          rw [sir (a := 42) (k := 41) (by decide), sir (a := 42) (k := 43) (by decide), sir (a := 43) (k := 41) (by decide), sir (a := 7) (k := 0) (by decide), sir (a := 7) (k := 8) (by decide), sir (a := 8) (k := 0) (by decide)]
          by_cases e : j = ns
          · subst e
            rw [si_eq, si_eq, si_eq, si_eq]
            exact ⟨q, k, hq, h2, rfl, rfl, rfl, rfl⟩
          · rw [si_nj e, si_nj e, si_nj e, si_nj e, sir (a := 43) (k := 42) (by decide), sir (a := 8) (k := 7) (by decide)]
            exact s4 j (by omega)
        · unfold BK at *
          rw [sir (a := 46) (k := 41) (by decide), sir (a := 46) (k := 43) (by decide), sir (a := 46) (k := 42) (by decide), sir (a := 47) (k := 41) (by decide), sir (a := 47) (k := 43) (by decide), sir (a := 47) (k := 42) (by decide), sir (a := 48) (k := 41) (by decide), sir (a := 48) (k := 43) (by decide), sir (a := 48) (k := 42) (by decide), si_nj (b := 14) (by decide), sir (a := 0) (k := 8) (by decide), sir (a := 0) (k := 7) (by decide), sir (a := 9) (k := 0) (by decide), sir (a := 9) (k := 8) (by decide), sir (a := 9) (k := 7) (by decide), sir (a := 10) (k := 0) (by decide), sir (a := 10) (k := 8) (by decide), sir (a := 10) (k := 7) (by decide)]
          exact B
      · have e : ns = 10 := by omega
        rw [if_neg (by rw [nI_ltI (by omega) (by omega)]; exact hf), if_pos (by rw [e])]
        exact Ag.mk' rfl rfl rfl R
    · rw [isHr_cn h1, gb_i, i00, in_n (by omega) (by omega) h2, gb_i, i00]
      exact Ag.mk' rfl rfl rfl R
  · rw [cellAt_out L.1 hin, gb_i, has_no, gb_i, i00, isCell_out L.2.1 hin, gb_i, i00]
    exact Ag.mk' rfl rfl rfl R
theorem op_write {c m : gS} (R : Rel c m) (x y v : Int32) : Ag (f_X9_write x y v c) (f_X10_write x y v m) := by
  obtain ⟨w, h, hr, l, th, ti, L, P, I0, I1, S, B, T, E⟩ := id R
  have hn := L.1.1.n
  obtain ⟨nb, s1, s2, s3, s4⟩ := id B
  unfold f_X9_write f_X10_write
  by_cases hin : inR w h x y
  · obtain ⟨q, hq, rfl, rfl⟩ := hin
    rw [cellAt_in L.1 hq, gb_i, has_in L.1 hq, gb_i, i10, isCell_in L.2.1 hq, gb_i, i10, c64_0, show (9999 : Int64) = lN 9999 from rfl]
    rcases rng2 v 0 9999 (by omega) (by omega) with ⟨k, h1, h2, rfl⟩ | ⟨h1, h2⟩
    · rw [isSum_c h2, gb_i, i10, in_y h1 h2 (by omega), gb_i, i10, s2, s3, cell_m L.2.1 hq, show (30 : Int32) = nI 30 from rfl]
      by_cases hf : nb < 30
      · rw [if_pos ((nI_ltI (by omega) (by omega)).mpr hf), if_neg (by rw [nI_eq (by omega) (by omega)]; omega), g_ixn (by omega) (by omega), nI_clamp (by omega)]
        unfold f_X0_add
        rw [s2, show (30 : Int32) = nI 30 from rfl, if_neg (nI_n0 (by omega)), if_pos ((nI_ltI (by omega) (by omega)).mpr hf), g_ixn (by omega) (by omega), nI_clamp (by omega)]
        simp only [g_let]
        rw [sir (a := 46) (k := 47) (by decide), s2, g_ixn (by omega) (by omega), nI_clamp (by omega), sir (a := 0) (k := 9) (by decide), s3, g_ixn (by omega) (by omega), nI_clamp (by omega), gb_v]
        rw [sir (a := 46) (k := 48) (by decide), sir (a := 46) (k := 47) (by decide), s2, sir (a := 0) (k := 10) (by decide), sir (a := 0) (k := 9) (by decide), s3, nI_1]
        refine Ag.mk' rfl rfl (by rw [si_eq, si_eq]) (Rel.sbk L P I0 I1 T E (((Sm.si (by simp)).tr (Sm.si (by simp))).tr (Sm.si (by simp))) (fun j h1 h2 => by rw [si_nj h2, sir (by decide), sir (by decide)]) (fun k hk => by simp at hk; rw [sir hk.1, sir hk.2.2.2.2, sir hk.2.2.2.1]) ?_ ?_)
        · unfold SN at *
          rw [sir (a := 41) (k := 46) (by decide), sir (a := 41) (k := 48) (by decide), sir (a := 41) (k := 47) (by decide), sir (a := 42) (k := 46) (by decide), sir (a := 42) (k := 48) (by decide), sir (a := 42) (k := 47) (by decide), sir (a := 43) (k := 46) (by decide), sir (a := 43) (k := 48) (by decide), sir (a := 43) (k := 47) (by decide), si_nj (b := 11) (by decide), sir (a := 0) (k := 10) (by decide), sir (a := 0) (k := 9) (by decide), sir (a := 7) (k := 0) (by decide), sir (a := 7) (k := 10) (by decide), sir (a := 7) (k := 9) (by decide), sir (a := 8) (k := 0) (by decide), sir (a := 8) (k := 10) (by decide), sir (a := 8) (k := 9) (by decide)]
          exact S
        · refine ⟨nb + 1, by omega, by rw [si_eq], by rw [si_eq], fun j hj => ?_⟩
          rw [sir (a := 47) (k := 46) (by decide), sir (a := 47) (k := 48) (by decide), sir (a := 48) (k := 46) (by decide), sir (a := 9) (k := 0) (by decide), sir (a := 9) (k := 10) (by decide), sir (a := 10) (k := 0) (by decide)]
          by_cases e : j = nb
          · subst e
            rw [si_eq, si_eq, si_eq, si_eq]
            exact ⟨q, k, hq, h2, rfl, rfl, rfl, rfl⟩
          · rw [si_nj e, si_nj e, si_nj e, si_nj e, sir (a := 48) (k := 47) (by decide), sir (a := 10) (k := 9) (by decide)]
            exact s4 j (by omega)
      · have e : nb = 30 := by omega
        rw [if_neg (by rw [nI_ltI (by omega) (by omega)]; exact hf), if_pos (by rw [e])]
        exact Ag.mk' rfl rfl rfl R
    · rw [isSum_cn h1, gb_i, i00, in_n (by omega) (by omega) h2, gb_i, i00]
      exact Ag.mk' rfl rfl rfl R
  · rw [cellAt_out L.1 hin, gb_i, has_no, gb_i, i00, isCell_out L.2.1 hin, gb_i, i00]
    exact Ag.mk' rfl rfl rfl R
theorem judge_l {c m : gS} {w h hr law nb : Nat} {l th ti gr : Nat → Nat} {lick wk : Option Nat} (Cc : CX c w h hr law l th ti gr lick wk) (C : MX m w h hr law l th ti gr lick wk) (s1 : nb ≤ 30) (s2 : c.1 46 3 = nI nb) (s3 : m.1 0 14 = nI nb) (s4 : ∀ k, k < nb → ∃ q x, q < w * h ∧ x ≤ 9999 ∧ c.1 47 k = nI q ∧ m.1 9 k = nI q ∧ c.1 48 k = nI x ∧ m.1 10 k = nI x) :
    ∀ (d i n n' : Nat), nb - i = d → i ≤ nb → d < n → d < n' → ∃ v, f_X0_firstWrong_2 (nI law) (fun v2_3 s4 => (some (some (.int (-1 : Int32)), s4))) n (nI i) c = some (some (.int v), c) ∧ f_X10_judge_2 (fun v1_3 s4 => (some (some (.int (-1 : Int32)), s4))) n' (nI i) m = some (some (.int v), m) := by
  intro d
  induction d with
  | zero =>
    intro i n n' h1 h2 h3 h4
    obtain ⟨n0, rfl⟩ : ∃ k, n = k + 1 := ⟨n - 1, by omega⟩
    obtain ⟨n0', rfl⟩ : ∃ k, n' = k + 1 := ⟨n' - 1, by omega⟩
    rw [f_X0_firstWrong_2.eq_2, f_X10_judge_2.eq_2, s2, s3, if_pos ((nI_leI (by omega) (by omega)).mpr (by omega)), if_pos ((nI_leI (by omega) (by omega)).mpr (by omega))]
    exact ⟨-1, rfl, rfl⟩
  | succ d ih =>
    intro i n n' h1 h2 h3 h4
    obtain ⟨n0, rfl⟩ : ∃ k, n = k + 1 := ⟨n - 1, by omega⟩
    obtain ⟨n0', rfl⟩ : ∃ k, n' = k + 1 := ⟨n' - 1, by omega⟩
    have hn := Cc.1.1.n
    obtain ⟨q, x, k1, k2, k3, k4, k5, k6⟩ := s4 i (by omega)
    rw [f_X0_firstWrong_2.eq_2, f_X10_judge_2.eq_2, s2, s3, show (30 : Int32) = nI 30 from rfl, if_neg (by rw [nI_leI (by omega) (by omega)]; omega), if_neg (by rw [nI_leI (by omega) (by omega)]; omega), if_neg (by rw [nI_leI (by omega) (by omega)]; omega), g_ixn (by omega) (by omega), nI_clamp (by omega), k3, g_ixn (by omega) (by omega), k4, show (0 : Int32) = nI 0 from rfl, tithes_c Cc.1 Cc.2.2.1 k1 Cc.2.2.2.2.2.2.2.1 (by omega), gb_i, tithes_m C.1 C.2.2.2.2.2.1 C.2.2.1 k1 C.2.2.2.2.2.2.1 (by omega), gb_i, g_ixn (by omega) (by omega), g_ixn (by omega) (by omega), k5, k6]
    by_cases e : nI (tS ti law w 0 q (w * h)) = nI x
    · rw [if_pos e, if_pos e, nI_1]
      exact ih (i + 1) n0 n0' (by omega) (by omega) (by omega) (by omega)
    · rw [if_neg e, if_neg e]
      exact ⟨nI i, rfl, rfl⟩
theorem op_judge {c m : gS} (R : Rel c m) : Ag (f_X9_judge c) (f_X10_judge m) := by
  obtain ⟨w, h, hr, l, th, ti, L, ⟨gr, fg, wk, noon, lick, law, sd, P⟩, I0, I1, S, B, T, E⟩ := id R
  obtain ⟨nb, s1, s2, s3, s4⟩ := id B
  have Cc := L.cx P
  obtain ⟨C, F⟩ := L.mx P
  unfold f_X9_judge f_X10_judge f_X0_firstWrong
  rw [Cc.2.2.2.2.2.2.1]
  obtain ⟨v, e1, e2⟩ := judge_l Cc C s1 s2 s3 s4 nb 0 g_N g_N (by omega) (by omega) (by unfold g_N; omega) (by unfold g_N; omega)
  rw [← c32_0] at e1 e2
  rw [e1, gb_i]
  exact Ag.mk' rfl e2 rfl R
