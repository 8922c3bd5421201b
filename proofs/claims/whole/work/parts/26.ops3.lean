/-! Calls that look ahead -/
theorem Mk.m82 {m m' : gS} (e : M82 m m') (h : m'.1 1 82 = m.1 1 82) : Mk m m' := by
  refine Mk.of1 (funext fun k => funext fun j => ?_)
  by_cases h1 : k = 1
  · subst h1
    by_cases h2 : j = 82
    · subst h2; exact h
    · exact e.2 j h2
  · rw [e.1 k h1]
theorem op_odds {c m : gS} (R : Rel c m) (x y v : Int32) : Ag (f_X9_odds x y v c) (f_X10_odds x y v m) := by
  obtain ⟨w, h, hr, l, th, ti, L, ⟨gr, fg, wk, noon, lick, law, sd, P⟩, I0, I1, S, B, T, E⟩ := id R
  have hn := L.1.1.n
  have Cc := L.cx P
  obtain ⟨C, F⟩ := L.mx P
  unfold f_X9_odds f_X10_odds
  by_cases hin : inR w h x y
  · obtain ⟨q, hq, rfl, rfl⟩ := hin
    rw [cellAt_in L.1 hq, gb_i, has_in L.1 hq, gb_i, i10, isCell_in L.2.1 hq, gb_i, i10, c64_0, show (12 : Int64) = lN 12 from rfl]
    rcases rng2 v 0 12 (by omega) (by omega) with ⟨k, h1, h2, rfl⟩ | ⟨h1, h2⟩
    · rw [isHr_c h2, gb_i, i10, in_y h1 h2 (by omega), gb_i, i10, Cc.2.2.2.2.2.2.2.2.1]
      obtain ⟨s1, a1, a2, a3⟩ := look (lick := lick) Cc.1 Cc.2.1 Cc.2.2.2.1 (fun q hq => by have := Cc.2.2.2.2.2.2.2.2.2.1 q hq; omega)
      have C1 := Cc.sm (a1.mono (fun k hk => by simp at hk ⊢; omega))
      obtain ⟨s2, b1, b2, b3⟩ := run_c (H := k) (by omega) C1.1 a2 (C1.F lick) C1.2.2.2.2.2.2.2.2.2.2.1 C1.2.2.2.2.2.2.2.2.2.2.2
      obtain ⟨m1, d1, d2, d3⟩ := find_m (H := k) (by omega) C.1 C.2.1 C.2.2.2.2.2.2.2.1 C.2.2.2.2.2.2.2.2
      rw [a3, gb_v, b3, gb_v, d3, gb_v, cell_m (by have := C.1; unfold Md at *; rw [d1.1]; exact this) hq, g_ixn (by omega) (by omega), g_ixn (by omega) (by omega), nI_clamp (by omega), b2 q (by omega), d2 q (by omega)]
      exact Ag.mk' rfl rfl rfl ((R.cf ((a1.mono (fun k hk => by simp at hk ⊢; omega)).tr (b1.sm.mono (fun k hk => by simp at hk ⊢; omega)))).mf (Mk.of1 d1.1))
    · rw [isHr_cn h1, gb_i, i00, in_n (by omega) (by omega) h2, gb_i, i00]
      exact Ag.mk' rfl rfl rfl R
  · rw [cellAt_out L.1 hin, gb_i, has_no, gb_i, i00, isCell_out L.2.1 hin, gb_i, i00]
    exact Ag.mk' rfl rfl rfl R
theorem op_mean {c m : gS} (R : Rel c m) (v : Int32) : Ag (f_X9_mean v c) (f_X10_mean v m) := by
  obtain ⟨w, h, hr, l, th, ti, L, ⟨gr, fg, wk, noon, lick, law, sd, P⟩, I0, I1, S, B, T, E⟩ := id R
  have hn := L.1.1.n
  have Cc := L.cx P
  obtain ⟨C, F⟩ := L.mx P
  unfold f_X9_mean f_X10_mean
  rcases rng2 v 0 1 (by omega) (by omega) with ⟨p, h1, h2, rfl⟩ | ⟨h1, h2⟩
  · rw [isPar_c (by omega), gb_i, i10, isPar_m (by omega), gb_i, i10, cells_m L.2.1, gb_i, L.1.2.2.2.1]
    by_cases h0 : w * h = 0
    · rw [if_pos (by rw [n0_c (by omega)]; exact h0), if_pos (by rw [n0_c (by omega)]; exact h0)]
      exact Ag.mk' rfl rfl rfl R
    rw [if_neg (by rw [n0_c (by omega)]; exact h0), if_neg (by rw [n0_c (by omega)]; exact h0)]
    obtain ⟨s1, a1, a2, a3⟩ := reck Cc
    have C1 := Cc.sm (a1.mono (fun k hk => by simp at hk ⊢; omega))
    obtain ⟨s2, b1, b2, b3⟩ := mwl (p := p) (lick' := lick) C1 a2 C1.2.2.2.2.2.2.2.2.2.1 (by omega)
    obtain ⟨m1, d1, d2⟩ := mean_m (p := p) C (by omega)
    rw [a3, gb_v, C1.2.2.2.2.2.2.2.2.1, b3, gb_i, d2, gb_i]
    exact Ag.mk' rfl rfl rfl ((R.cf ((a1.mono (fun k hk => by simp at hk ⊢; omega)).tr (b1.mono (fun k hk => by simp at hk ⊢; omega)))).mf (Mk.of1 d1.1))
  · rw [isPar_cn h2, gb_i, i00, isPar_mn h2, gb_i, i00]
    exact Ag.mk' rfl rfl rfl R
theorem op_worth {c m : gS} (R : Rel c m) (v x y : Int32) : Ag (f_X9_worth v x y c) (f_X10_worth v x y m) := by
  obtain ⟨w, h, hr, l, th, ti, L, ⟨gr, fg, wk, noon, lick, law, sd, P⟩, I0, I1, S, B, T, E⟩ := id R
  have hn := L.1.1.n
  have Cc := L.cx P
  obtain ⟨C, F⟩ := L.mx P
  unfold f_X9_worth f_X10_worth
  rcases rng2 v 0 1 (by omega) (by omega) with ⟨p, h1, h2, rfl⟩ | ⟨h1, h2⟩
  · by_cases hin : inR w h x y
    · obtain ⟨q, hq, rfl, rfl⟩ := hin
      rw [cellAt_in L.1 hq, gb_i, isPar_c (by omega), gb_i, i10, has_in L.1 hq, gb_i, i10, isPar_m (by omega), gb_i, i10, isCell_in L.2.1 hq, gb_i, i10, show (82 : Int32) = nI 82 from rfl]
      obtain ⟨s1, a1, a2, a3⟩ := reck Cc
      have C1 := Cc.sm (a1.mono (fun k hk => by simp at hk ⊢; omega))
      obtain ⟨s2, b1, b2, b3⟩ := mwl (p := p) (lick' := some q) C1 a2 (fun j hj => by cases hj; exact hq) (by omega)
      have C2 := C1.sm (b1.mono (fun k hk => by simp at hk ⊢; omega))
      have hT2 : Tb s2 w h law ti (w * h) := by unfold Tb; rw [(b1 39 (by simp)).1, (b1 40 (by simp)).1]; exact a2
      obtain ⟨s3, c1, c2, c3⟩ := mwl (p := p) (lick' := lick) C2 hT2 C2.2.2.2.2.2.2.2.2.2.1 (by omega)
      rw [show oI (some q) = nI q from rfl] at b3
      rw [a3, gb_v, b3, gb_i, C2.2.2.2.2.2.2.2.2.1, c3, gb_i]
      obtain ⟨m1, d1, d2⟩ := mean_m (p := p) C (by omega)
      have M1 : M82 m (g_si m1 1 82 (nI q)) := (M82.of1 d1.1).tr M82.si
      have K1 := C.lk (lick' := some q) M1 (by rw [si_eq]; rfl) (fun j hj => by cases hj; exact hq)
      obtain ⟨m2, e1, e2⟩ := mean_m (p := p) K1 (by omega)
      rw [m82 (by omega), m82c (by omega)]
      simp only [g_leti]
      rw [d2, gb_i, m82 (by omega)]
      simp only [g_let]
      rw [cell_m (by have := C.1; unfold Md at *; rw [d1.1]; exact this) hq, e2, gb_i, m82 (by omega)]
      exact Ag.mk' rfl rfl rfl ((R.cf (((a1.mono (fun k hk => by simp at hk ⊢; omega)).tr (b1.mono (fun k hk => by simp at hk ⊢; omega))).tr (c1.mono (fun k hk => by simp at hk ⊢; omega)))).mf (Mk.m82 ((M1.tr (M82.of1 e1.1)).tr M82.si) (by rw [si_eq])))
    · rw [cellAt_out L.1 hin, gb_i, isPar_c (by omega), gb_i, i10, has_no, gb_i, i00, isPar_m (by omega), gb_i, i10, isCell_out L.2.1 hin, gb_i, i00]
      exact Ag.mk' rfl rfl rfl R
  · rw [isPar_mn h2, gb_i, i00]
    by_cases hin : inR w h x y
    · obtain ⟨q, hq, rfl, rfl⟩ := hin
      rw [cellAt_in L.1 hq, gb_i, isPar_cn h2, gb_i, i00]
      exact Ag.mk' rfl rfl rfl R
    · rw [cellAt_out L.1 hin, gb_i, isPar_cn h2, gb_i, i00]
      exact Ag.mk' rfl rfl rfl R
theorem Mk.md {m m' : gS} {w h : Nat} (e : Mk m m') (M : Md m w h) : Md m' w h := by unfold Md at *; rw [e.1.1, e.1.2.1]; exact M
theorem op_clover {c m : gS} (R : Rel c m) (v k' z : Int32) : Ag (f_X9_clover v k' z c) (f_X10_clover v k' z m) := by
  obtain ⟨w, h, hr, l, th, ti, L, ⟨gr, fg, wk, noon, lick, law, sd, P⟩, I0, I1, S, B, T, E⟩ := id R
  have hn := L.1.1.n
  have Cc := L.cx P
  obtain ⟨C, F⟩ := L.mx P
  unfold f_X9_clover f_X10_clover
  rcases rng2 v 0 1 (by omega) (by omega) with ⟨p, h1, h2, rfl⟩ | ⟨h1, h2⟩
  · rw [isPar_c (by omega), gb_i, i10, isPar_m (by omega), gb_i, i10, c64_1, c64_0, show (9 : Int64) = lN 9 from rfl]
    rcases rng2 k' 1 9 (by omega) (by omega) with ⟨k, k1, k2, rfl⟩ | ⟨k1, k2⟩
    · rw [isClo_c k1 k2, gb_i, i10, in_y k1 k2 (by omega), gb_i, i10]
      rcases rng2 z 0 1 (by omega) (by omega) with ⟨t, t1, t2, rfl⟩ | ⟨t1, t2⟩
      · rw [if_neg (nI_n0 (by omega)), c32_1, if_pos (nI_le t2 (by omega)), in_y t1 t2 (by omega), gb_i, ← c32_1, i10, cells_m L.2.1, gb_i, L.1.2.2.2.1]
        by_cases h0 : w * h = 0
        · rw [if_pos (by rw [n0_c (by omega)]; exact h0), if_pos (by rw [n0_c (by omega)]; exact h0)]
          exact Ag.mk' rfl rfl rfl R
        rw [if_neg (by rw [n0_c (by omega)]; exact h0), if_neg (by rw [n0_c (by omega)]; exact h0)]
        obtain ⟨s1, a1, a2, a3⟩ := reck Cc
        have C1 := Cc.sm (a1.mono (fun k hk => by simp at hk ⊢; omega))
        obtain ⟨s2, b1, b2, b3, b4⟩ := bc_c (p := p) (k := k) (o := none) C1 a2 (by omega) k2 (fun q hq => by cases hq)
        obtain ⟨m1, d1, d2, d3⟩ := bc_m (p := p) (k := k) (o := none) C F (by omega) k2 (fun q hq => by cases hq)
        have C2 := C1.sm (b1.mono (fun k hk => by simp at hk ⊢; omega))
        have hT2 : Tb s2 w h law ti (w * h) := by unfold Tb; rw [(b1 39 (by simp)).1, (b1 40 (by simp)).1]; exact a2
        rw [a3, gb_v, show (-1 : Int32) = oI none from rfl, b4, gb_i, d3, gb_i]
        obtain ⟨b, bv, hb⟩ := (bst_lt (mnC w h law l th ti gr lick wk hr p k none) (w * h)).2.1 (by omega)
        have hb2 := b2 b bv hb
        have hd2 := d2 b bv hb
        have hR2 : Rel s2 m1 := (R.cf ((a1.mono (fun k hk => by simp at hk ⊢; omega)).tr (b1.mono (fun k hk => by simp at hk ⊢; omega)))).mf (Mk.m2 d1)
        by_cases ht : t = 0
        · subst ht
          rw [if_pos (by decide), if_pos (by decide), place_c C2.1 (fun q hq => bst_b hq), gb_i, named_m ((Mk.m2 d1).md L.2.1) (fun q hq => bst_b hq), gb_i]
          exact Ag.mk' rfl rfl rfl hR2
        · have e : ¬ nI t = 0 := by rw [c32_0, nI_eq (by omega) (by omega)]; exact ht
          rw [if_neg e, if_neg e]
          obtain ⟨s3, c1, c2, c3⟩ := mwl (p := p) (lick' := lick) C2 hT2 C2.2.2.2.2.2.2.2.2.2.1 (by omega)
          obtain ⟨m2, e1, e2⟩ := mean_m (p := p) (C.m2 d1) (by omega)
          rw [C2.2.2.2.2.2.2.2.2.1, c3, gb_i, e2, gb_i]
          exact Ag.mk' rfl rfl (by rw [hb2, hd2]) ((hR2.cf (c1.mono (fun k hk => by simp at hk ⊢; omega))).mf (Mk.of1 e1.1))
      · rw [in_n (by omega) (by omega) t2, gb_i, i00]
        by_cases q : z < 0
        · rw [if_pos q]; exact Ag.mk' rfl rfl rfl R
        · rw [if_neg q, c32_1, if_neg (fun q2 => t2 ⟨Int32.not_lt.mp q, q2⟩)]
          exact Ag.mk' rfl rfl rfl R
    · rw [isClo_cn k1, gb_i, i00, in_n (by omega) (by omega) k2, gb_i, i00]
      exact Ag.mk' rfl rfl rfl R
  · rw [isPar_cn h2, gb_i, i00, isPar_mn h2, gb_i, i00]
    exact Ag.mk' rfl rfl rfl R
theorem op_fairest {c m : gS} (R : Rel c m) (z : Int32) : Ag (f_X9_fairest z c) (f_X10_fairest z m) := by
  obtain ⟨w, h, hr, l, th, ti, L, ⟨gr, fg, wk, noon, lick, law, sd, P⟩, I0, I1, S, B, T, E⟩ := id R
  have hn := L.1.1.n
  have Cc := L.cx P
  obtain ⟨C, F⟩ := L.mx P
  unfold f_X9_fairest f_X10_fairest
  rw [c64_1, c64_0]
  rcases rng2 z 0 1 (by omega) (by omega) with ⟨t, t1, t2, rfl⟩ | ⟨t1, t2⟩
  · rw [if_neg (nI_n0 (by omega)), c32_1, if_pos (nI_le t2 (by omega)), in_y t1 t2 (by omega), gb_i, ← c32_1, i10, cells_m L.2.1, gb_i, L.1.2.2.2.1]
    by_cases h0 : w * h = 0
    · rw [if_pos (by rw [n0_c (by omega)]; exact h0), if_pos (by rw [n0_c (by omega)]; exact h0)]
      exact Ag.mk' rfl rfl rfl R
    rw [if_neg (by rw [n0_c (by omega)]; exact h0), if_neg (by rw [n0_c (by omega)]; exact h0)]
    obtain ⟨s1, a1, a2, a3⟩ := reck Cc
    have C1 := Cc.sm (a1.mono (fun k hk => by simp at hk ⊢; omega))
    obtain ⟨s2, b1, b2, b3⟩ := fc_c C1 a2
    have C2 := C1.sm (b1.mono (fun k hk => by simp at hk ⊢; omega))
    rw [a3, gb_v, b3, gb_i, show (82 : Int32) = nI 82 from rfl, m82 (by omega), m82c (by omega), C.2.1.2.2.2.1]
    simp only [g_leti]
    obtain ⟨m1, x', d1, d2, d3⟩ := ff_42 (v1 := nI t) (v2 := oI lick) (kk := fun v3_14 v4_15 v5_16 s17 => (g_ix (nI 82) 88 (g_let (g_si s17 1 82 (oI lick)) (fun s18 => (if nI t = 0 then (g_bind (f_X10_named v3_14 s18) (g_ki (fun r20 s19 => (some (some (.int r20), s19))))) else (some (some (.int v4_15), s18))))))) C g_N 0 m 2000000000 (by omega) (by unfold g_N; omega) ⟨fun _ _ => rfl, fun _ _ => rfl⟩ (fun _ => rfl) (fun b v q => by cases q)
    rw [show lstS (gpF w h law l th ti gr wk hr) 0 = (none, 0) from rfl, show oI (none, 0).1 = -1 from rfl, ← c32_0] at d3
    rw [d3, m82 (by omega)]
    simp only [g_let]
    have hm : Mk m (g_si m1 1 82 (oI lick)) := Mk.m82 (d1.tr M82.si) (by rw [si_eq]; exact C.2.1.2.2.2.1.symm)
    obtain ⟨b, bv, hb⟩ := (lst_lt (gpF w h law l th ti gr wk hr) (w * h)).2.1 (by omega)
    have hbn := ((lst_lt (gpF w h law l th ti gr wk hr) (w * h)).1 b bv hb).1
    have hR2 : Rel s2 (g_si m1 1 82 (oI lick)) := (R.cf ((a1.mono (fun k hk => by simp at hk ⊢; omega)).tr (b1.mono (fun k hk => by simp at hk ⊢; omega)))).mf hm
    by_cases ht : t = 0
    · subst ht
      have hq : ∀ q, (lstS (gpF w h law l th ti gr wk hr) (w * h)).1 = some q → q < w * h := fun q hq => by rw [hb] at hq; cases hq; exact hbn
      rw [if_pos (by decide), if_pos (by decide), place_c C2.1 hq, gb_i, named_m (hm.md L.2.1) hq, gb_i]
      exact Ag.mk' rfl rfl rfl hR2
    · have e : ¬ nI t = 0 := by rw [c32_0, nI_eq (by omega) (by omega)]; exact ht
      rw [if_neg e, if_neg e]
      exact Ag.mk' rfl rfl (by rw [b2 b bv hb, d2 b bv hb]) hR2
  · rw [in_n (by omega) (by omega) t2, gb_i, i00]
    by_cases q : z < 0
    · rw [if_pos q]; exact Ag.mk' rfl rfl rfl R
    · rw [if_neg q, c32_1, if_neg (fun q2 => t2 ⟨Int32.not_lt.mp q, q2⟩)]
      exact Ag.mk' rfl rfl rfl R
theorem op_watch {c m : gS} (R : Rel c m) (z : Int32) : Ag (f_X9_watch z c) (f_X10_watch z m) := by
  obtain ⟨w, h, hr, l, th, ti, L, ⟨gr, fg, wk, noon, lick, law, sd, P⟩, I0, I1, S, B, T, E⟩ := id R
  have hn := L.1.1.n
  have Cc := L.cx P
  obtain ⟨C, F⟩ := L.mx P
  unfold f_X9_watch f_X10_watch
  rw [c64_0, show (2 : Int64) = lN 2 from rfl]
  rcases rng2 z 0 2 (by omega) (by omega) with ⟨t, t1, t2, rfl⟩ | ⟨t1, t2⟩
  · rw [if_neg (nI_n0 (by omega)), c32_2, if_pos (nI_le t2 (by omega)), in_y t1 t2 (by omega), gb_i, i10, cells_m L.2.1, gb_i, L.1.2.2.2.1]
    by_cases h0 : w * h = 0
    · rw [if_pos (by rw [n0_c (by omega)]; exact h0), if_pos (by rw [n0_c (by omega)]; exact h0)]
      exact Ag.mk' rfl rfl rfl R
    rw [if_neg (by rw [n0_c (by omega)]; exact h0), if_neg (by rw [n0_c (by omega)]; exact h0)]
    obtain ⟨s1, a1, a2, a3⟩ := look (lick := lick) Cc.1 Cc.2.1 Cc.2.2.2.1 (fun q hq => by have := Cc.2.2.2.2.2.2.2.2.2.1 q hq; omega)
    have C1 := Cc.sm (a1.mono (fun k hk => by simp at hk ⊢; omega))
    obtain ⟨s2, b1, b2⟩ := wat_c (v1 := nI t) C1 a2 (C1.F lick) (by omega)
    rw [Cc.2.2.2.2.2.2.2.2.1, a3, gb_v, b2, gb_i]
    have hwn := C.2.2.2.2.2.2.2.2
    obtain ⟨m1, d1, d2, d3⟩ := start_l (F := lkF l th gr lick) (wk := wk) (k := fun v1_3 s4 => some (none, s4)) C.2.2.2.2.2.2.2.1 (fun q hq => by have := hwn q hq; omega) g_N 0 m (by omega) (by unfold g_N; omega) S2.rf (fun q hq => by omega)
    have e1 : f_X10_startOdds m = some (none, m1) := by unfold f_X10_startOdds; rw [c32_0]; exact d3
    rw [e1, gb_v]
    obtain ⟨w1, w2, w3⟩ := wat_b (F := lkF l th gr lick) (wk := wk) (show 0 < w * h by omega) (fun kk q => od_le C.1.1 (C.F lick) hwn kk q) hr
    obtain ⟨m2, c', z', f1, f2, f3, f4⟩ := wat_42 (v1 := nI t) (k := fun v2_13 v3_14 v4_15 v6_16 s17 => (if nI t = 0 then (some (some (.int v2_13), s17)) else (if nI t = (1 : Int32) then (g_bind (f_X10_named v3_14 s17) (g_ki (fun r19 s18 => (some (some (.int r19), s18))))) else (some (some (.int (v4_15.toInt32)), s17))))) (C.s1 d1.1) (by omega) g_N 0 m1 (-1) (-1) (by omega) (by unfold g_N; have := C.2.2.2.2.1; omega) S2.rf d2 (fun e => absurd e (by omega)) (fun e => absurd e (by omega)) (fun _ => rfl)
    rw [show watS w h (lkF l th gr lick) wk 0 = (0, 0, 0) from rfl, show nI (0, 0, 0).1 = 0 from rfl, show nI (0 + 1) = 1 from rfl] at f4
    have hhr := C.2.2.2.2.1
    have hM : Md m2 w h := by have := L.2.1; unfold Md at *; rw [f1.1, d1.1]; exact this
    rw [f4, f2 (by omega), f3 (by omega), named_in hM w2, gb_i]
    refine Ag.mk' rfl (v' := wAns w (nI t) (watS w h (lkF l th gr lick) wk hr)) (m' := m2) ?_ rfl ((R.cf ((a1.mono (fun k hk => by simp at hk ⊢; omega)).tr (b1.sm.mono (fun k hk => by simp at hk ⊢; omega)))).mf (Mk.of1 (f1.1.trans d1.1)))
    unfold wAns
    by_cases e0 : nI t = 0
    · rw [if_pos e0, if_pos e0]
    · rw [if_neg e0, if_neg e0]
      by_cases e2 : nI t = 1
      · rw [if_pos e2, if_pos e2]
      · rw [if_neg e2, if_neg e2, lN_i]
  · rw [in_n (by omega) (by omega) t2, gb_i, i00]
    by_cases q : z < 0
    · rw [if_pos q]; exact Ag.mk' rfl rfl rfl R
    · rw [if_neg q, c32_2, if_neg (fun q2 => t2 ⟨Int32.not_lt.mp q, q2⟩)]
      exact Ag.mk' rfl rfl rfl R
