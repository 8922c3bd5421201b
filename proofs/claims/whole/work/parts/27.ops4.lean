/-! The rests; keeping and going back -/
theorem rests_t {c m : gS} {v1 : Int32} {k : Nat} (R : Rel c m) (hk : k ≤ 9) : Ag
    (if (c.1 14 2) = 0 then (some (some (.int (-1000000003 : Int32)), c)) else (g_bind (f_X8_reckonBorders c) (g_kv (fun s3 => (g_bind (f_X8_roundsTillRest (nI k) s3) (g_ki (fun r5 s4 => (if v1 = (-1 : Int32) then (some (some (.int r5), s4)) else (if r5 = (-1 : Int32) then (some (some (.int r5), s4)) else (if v1 = 0 then (g_bind (f_X3_placeOf 14 (s4.1 38 6) s4) (g_ki (fun r9 s8 => (some (some (.int r9), s8))))) else (g_bind (f_X3_placeOf 14 (s4.1 38 7) s4) (g_ki (fun r7 s6 => (some (some (.int r7), s6)))))))))))))))
    (g_bind (f_X10_cells m) (g_ki (fun r4 s3 => (if r4 = 0 then (some (some (.int (-1000000003 : Int32)), s3)) else (g_bind (f_X10_bestClover (0 : Int32) (nI k) (-1 : Int32) s3) (g_ki (fun r6 s5 => (g_bind (f_X10_bestClover (1 : Int32) (nI k) (-1 : Int32) s5) (g_ki (fun r8 s7 => (f_X10_rests_61 v1 (nI k) (fun v3_17 v4_18 v5_19 s20 => (some (some (.int (-1 : Int32)), s20))) g_N r6 r8 (0 : Int32) s7))))))))))) := by
  obtain ⟨w, h, hr, l, th, ti, L, ⟨gr, fg, wk, noon, lick, law, sd, P⟩, I0, I1, S, B, T, E⟩ := id R
  have hn := L.1.1.n
  have Cc := L.cx P
  obtain ⟨C, F⟩ := L.mx P
  rw [cells_m L.2.1, gb_i, L.1.2.2.2.1]
  by_cases h0 : w * h = 0
  · rw [if_pos (by rw [n0_c (by omega)]; exact h0), if_pos (by rw [n0_c (by omega)]; exact h0)]
    exact Ag.mk' rfl rfl rfl R
  rw [if_neg (by rw [n0_c (by omega)]; exact h0), if_neg (by rw [n0_c (by omega)]; exact h0)]
  obtain ⟨s1, a1, a2, a3⟩ := reck Cc
  have C1 := Cc.sm (a1.mono (fun k hk => by simp at hk ⊢; omega))
  obtain ⟨s2, b1, b2⟩ := rr_c (k := k) C1 a2 hk
  obtain ⟨m1, d1, -, d3⟩ := bc_m (p := 0) (k := k) (o := none) C F (by omega) hk (fun q hq => by cases hq)
  have hF1 : FG m1 (w * h) fg := by unfold FG at *; rw [d1.2 1 (by decide) (by decide)]; exact F
  obtain ⟨m2, e1, -, e3⟩ := bc_m (p := 1) (k := k) (o := none) (C.m2 d1) hF1 (by omega) hk (fun q hq => by cases hq)
  have hF2 : FG m2 (w * h) fg := by unfold FG at *; rw [e1.2 1 (by decide) (by decide)]; exact hF1
  rw [a3, gb_v, show (-1 : Int32) = oI none from rfl, c32_0, d3, gb_i, c32_1, e3, gb_i]
  obtain ⟨m3, f1, f2⟩ := rr_61 (v1 := v1) (kk := fun v3_17 v4_18 v5_19 s20 => (some (some (.int (oI none)), s20))) ((C.m2 d1).m2 e1) hF2 hk g_N 0 m2 (bsO w h law l th ti gr lick wk hr 0 k none) (bsO w h law l th ti gr lick wk hr 1 k none) (by omega) (by unfold g_N; omega) M2.rf (fun q hq => bst_b hq) (fun q hq => bst_b hq)
  have hR2 : Rel s2 m3 := (R.cf ((a1.mono (fun k hk => by simp at hk ⊢; omega)).tr (b1.mono (fun k hk => by simp at hk ⊢; omega)))).mf (Mk.m2 ((d1.tr e1).tr f1))
  have hM3 : Md m3 w h := (Mk.m2 ((d1.tr e1).tr f1)).md L.2.1
  have C2 := C1.sm (b1.mono (fun k hk => by simp at hk ⊢; omega))
  rw [show (bstS (mnC w h law l th ti gr lick wk hr 0 k none) (w * h)).1 = bsO w h law l th ti gr lick wk hr 0 k none from rfl, show (bstS (mnC w h law l th ti gr lick wk hr 1 k none) (w * h)).1 = bsO w h law l th ti gr lick wk hr 1 k none from rfl]
  rw [show 20 - 0 = 20 from rfl] at f2
  cases hz : rndS (bsO w h law l th ti gr lick wk hr 0 k) (bsO w h law l th ti gr lick wk hr 1 k) 20 0 (bsO w h law l th ti gr lick wk hr 0 k none) (bsO w h law l th ti gr lick wk hr 1 k none) with
  | none =>
    rw [hz] at b2 f2
    obtain ⟨x, y, f3⟩ := f2
    have b3 : f_X8_roundsTillRest (nI k) s1 = some (some (.int (-1)), s2) := b2
    rw [b3, gb_i, f3]
    by_cases e : v1 = oI none
    · rw [if_pos e]; exact Ag.mk' rfl rfl rfl hR2
    · rw [if_neg e, if_pos (show (-1 : Int32) = oI none from rfl)]; exact Ag.mk' rfl rfl rfl hR2
  | some t =>
    obtain ⟨r', a', b'⟩ := t
    rw [hz] at b2 f2
    obtain ⟨b3, b4, b5⟩ := (show f_X8_roundsTillRest (nI k) s1 = some (some (.int (nI r')), s2) ∧ s2.1 38 6 = oI a' ∧ s2.1 38 7 = oI b' from b2)
    have f3 := (show f_X10_rests_61 v1 (nI k) (fun v3_17 v4_18 v5_19 s20 => (some (some (.int (oI none)), s20))) g_N (oI (bsO w h law l th ti gr lick wk hr 0 k none)) (oI (bsO w h law l th ti gr lick wk hr 1 k none)) (nI 0) m2 = (if v1 = (-1 : Int32) then (some (some (.int (nI r')), m3)) else (if v1 = 0 then (g_bind (f_X10_named (oI a') m3) (g_ki (fun r16 s15 => (some (some (.int r16), s15))))) else (g_bind (f_X10_named (oI b') m3) (g_ki (fun r14 s13 => (some (some (.int r14), s13))))))) from f2)
    obtain ⟨g1, g2, g3, g4⟩ := rnd_b (n := w * h) (fun o q hq => bst_b hq) (fun o q hq => bst_b hq) 20 0 _ _ (fun q hq => bst_b hq) (fun q hq => bst_b hq) r' a' b' hz
    rw [b3, gb_i, f3, show oI none = (-1 : Int32) from rfl, ← c32_0]
    by_cases e : v1 = -1
    · rw [if_pos e, if_pos e]; exact Ag.mk' rfl rfl rfl hR2
    rw [if_neg e, if_neg e, if_neg (nI_m1 (by omega)), b4, b5]
    by_cases e2 : v1 = 0
    · rw [if_pos e2, if_pos e2, place_c C2.1 g1, gb_i, named_m hM3 g1, gb_i]; exact Ag.mk' rfl rfl rfl hR2
    · rw [if_neg e2, if_neg e2, place_c C2.1 g2, gb_i, named_m hM3 g2, gb_i]; exact Ag.mk' rfl rfl rfl hR2
theorem op_rests {c m : gS} (R : Rel c m) (v k' : Int32) : Ag (f_X9_rests v k' c) (f_X10_rests v k' m) := by
  unfold f_X9_rests f_X10_rests
  rw [c64_1, show (9 : Int64) = lN 9 from rfl]
  by_cases e : v = -1
  · rw [if_pos e, if_pos e]
    rcases rng2 k' 1 9 (by omega) (by omega) with ⟨k, k1, k2, rfl⟩ | ⟨k1, k2⟩
    · rw [isClo_c k1 k2, gb_i, i10, in_y k1 k2 (by omega), gb_i, i10]
      exact rests_t R k2
    · rw [isClo_cn k1, gb_i, i00, in_n (by omega) (by omega) k2, gb_i, i00]
      exact Ag.mk' rfl rfl rfl R
  rw [if_neg e, if_neg e]
  rcases rng2 v 0 1 (by omega) (by omega) with ⟨p, h1, h2, rfl⟩ | ⟨h1, h2⟩
  · rw [isPar_c (by omega), gb_i, i10, isPar_m (by omega), gb_i, i10]
    rcases rng2 k' 1 9 (by omega) (by omega) with ⟨k, k1, k2, rfl⟩ | ⟨k1, k2⟩
    · rw [isClo_c k1 k2, gb_i, i10, in_y k1 k2 (by omega), gb_i, i10]
      exact rests_t R k2
    · rw [isClo_cn k1, gb_i, i00, in_n (by omega) (by omega) k2, gb_i, i00]
      exact Ag.mk' rfl rfl rfl R
  · rw [isPar_cn h2, gb_i, i00, isPar_mn h2, gb_i, i00]
    exact Ag.mk' rfl rfl rfl R
