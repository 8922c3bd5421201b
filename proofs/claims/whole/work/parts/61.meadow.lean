/-! The meadow is read -/
theorem Rel.rd {c c' m m' : gS} (R : Rel c m) (hc : ∀ k, 14 ≤ k → c'.1 k = c.1 k) (hm : ∀ k, 1 ≤ k → k ≤ 10 → m'.1 k = m.1 k) (h0 : m'.1 0 3 = m.1 0 3 ∧ m'.1 0 4 = m.1 0 4 ∧ m'.1 0 7 = m.1 0 7 ∧ m'.1 0 11 = m.1 0 11 ∧ m'.1 0 14 = m.1 0 14) (T : TX c' m') (E : c'.1 3 10 = m'.1 0 17) : Rel c' m' := by
  obtain ⟨b1, b2, b3, b4, b5⟩ := h0
  obtain ⟨w, h, hr, l, th, ti, h1, h2, h3, h4, h5, h6, h7, h8⟩ := R
  refine ⟨w, h, hr, l, th, ti, ?_, ?_, ?_, ?_, ?_, ?_, T, E⟩
  · obtain ⟨a1, a2, a3, a4, a5, a6, a7⟩ := h1
    refine ⟨a1.congr (fun k x y => hc k (by omega)), ?_, ?_, a4.congr (fun k x y => hc k (by omega)), ?_, ?_, ?_⟩
    · unfold Md at *; rw [b1, b2]; exact a2
    · rw [hc 14 (by decide), b3]; exact a3
    · rw [hm 6 (by decide) (by decide)]; exact a5
    · rw [hm 4 (by decide) (by decide)]; exact a6
    · rw [hc 19 (by decide), hm 5 (by decide) (by decide)]; exact a7
  · unfold PX PR at *; rw [hc 22 (by decide), hc (22 + 1) (by decide), hc (22 + 2) (by decide), hm 1 (by decide) (by decide)]; exact h2
  · unfold IM PX PR at *; rw [hc (25 + 4 * 0) (by decide), hc (26 + 4 * 0) (by decide), hc (26 + 4 * 0 + 1) (by decide), hc (26 + 4 * 0 + 2) (by decide), hm 3 (by decide) (by decide), hm 2 (by decide) (by decide)]; exact h3
  · unfold IM PX PR at *; rw [hc (25 + 4 * 1) (by decide), hc (26 + 4 * 1) (by decide), hc (26 + 4 * 1 + 1) (by decide), hc (26 + 4 * 1 + 2) (by decide), hm 3 (by decide) (by decide), hm 2 (by decide) (by decide)]; exact h4
  · unfold SN at *; rw [hc 41 (by decide), hc 42 (by decide), hc 43 (by decide), b4, hm 7 (by decide) (by decide), hm 8 (by decide) (by decide)]; exact h5
  · unfold BK at *; rw [hc 46 (by decide), hc 47 (by decide), hc 48 (by decide), b5, hm 9 (by decide) (by decide), hm 10 (by decide) (by decide)]; exact h6
/-- the reference's state at the end of a meadow that is read -/
def mZ (s : gS) (v : Int32) : gS := g_si (g_si (g_si (g_si (g_si (g_si (g_si (g_si (g_si (g_si s 1 80 v) 1 81 (-1)) 1 82 (-1)) 1 83 0) 1 84 0) 1 85 0) 0 11 0) 0 14 0) 3 0 (vp_nar .boolean 0)) 3 1 (vp_nar .boolean 0)
theorem mZ_r {s : gS} {v : Int32} {k : Nat} (h : k ≠ 0 ∧ k ≠ 1 ∧ k ≠ 3) : (mZ s v).1 k = s.1 k := by
  unfold mZ
  rw [sir h.2.2, sir h.2.2, sir h.1, sir h.1, sir h.2.1, sir h.2.1, sir h.2.1, sir h.2.1, sir h.2.1, sir h.2.1]
theorem mZ_0 {s : gS} {v : Int32} {j : Nat} (h : j ≠ 11 ∧ j ≠ 14) : (mZ s v).1 0 j = s.1 0 j := by
  unfold mZ
  rw [sir (by decide), sir (by decide), si_nj h.2, si_nj h.1, sir (by decide), sir (by decide), sir (by decide), sir (by decide), sir (by decide), sir (by decide)]
theorem mZ_1 {s : gS} {v : Int32} : (∀ j, j < 80 ∨ 86 ≤ j → (mZ s v).1 1 j = s.1 1 j) ∧ (mZ s v).1 1 80 = v ∧ (mZ s v).1 1 81 = -1 ∧ (mZ s v).1 1 82 = -1 ∧ (mZ s v).1 1 83 = 0 ∧ (mZ s v).1 1 84 = 0 ∧ (mZ s v).1 1 85 = 0 := by
  unfold mZ
  simp only [sir (show (1 : Nat) ≠ 3 by decide), sir (show (1 : Nat) ≠ 0 by decide)]
  refine ⟨fun j hj => ?_, ?_, ?_, ?_, ?_, ?_, ?_⟩
  · rw [si_nj (by omega), si_nj (by omega), si_nj (by omega), si_nj (by omega), si_nj (by omega), si_nj (by omega)]
  all_goals simp [si1]
theorem mZ_z {s : gS} {v : Int32} : (mZ s v).1 0 11 = 0 ∧ (mZ s v).1 0 14 = 0 ∧ (mZ s v).1 3 0 = 0 ∧ (mZ s v).1 3 1 = 0 := by
  unfold mZ
  rw [nb0]
  refine ⟨?_, ?_, ?_, ?_⟩ <;> simp [si1]
theorem op_meadow {c m : gS} (R : Rel c m) : Ag (f_X9_meadow c) (f_X10_meadow m) := by
  obtain ⟨w0, h0, hr0, l0, th0, ti0, L0, PP, I0, I1, S, B, ⟨len, t1, t2, t3, t4⟩, E⟩ := id R
  obtain ⟨gr0, fg0, wk0, noon0, lick0, law, sd, PR0⟩ := PP
  obtain ⟨-, -, -, -, -, -, -, lw, sdd⟩ := PR0
  unfold f_X9_meadow f_X10_meadow f_X7_clear
  rcases read_o (T := c.1 2) (len := len) (c := c) (m := m) ⟨t1, t2, fun _ _ => rfl⟩ ⟨t1, t3, fun k hk => (t4 k hk).symm⟩ with ⟨w, h, c1, m1, p, q, D, e1, e2⟩ | ⟨f, c1, m1, p, q, f1, f2, f3, f4, e1, e2⟩
  rotate_left
  · rw [e1, e2, gb_i, gb_i, gl_s, gb_v, if_neg (show ¬ 0 ≤ -10 - nI f from by
      rcases (show f = 1 ∨ f = 2 ∨ f = 3 ∨ f = 4 by omega) with rfl | rfl | rfl | rfl <;> decide), if_pos rfl, gl_s, gl_s, if_pos rfl, si_nj (show (37 : Nat) ≠ 16 by decide), si_nj (show (37 : Nat) ≠ 17 by decide), f4]
    refine Ag.mk' rfl rfl rfl (R.rd (fun k hk => ?_) (fun k h1 h2 => ?_) ?_ ⟨0, by omega, by rw [si_eq]; rfl, by rw [si_eq]; rfl, fun k hk => absurd hk (by omega)⟩ ?_)
    · rw [sir (by omega)]; exact (p.1 k (by simp; omega)).1
    · rw [sir (by omega), sir (by omega)]; exact q.2 k h1 (by omega)
    · rw [si_nj (by decide), si_nj (by decide), si_nj (by decide), si_nj (by decide), si_nj (by decide), si_nj (by decide), si_nj (by decide), si_nj (by decide), si_nj (by decide), si_nj (by decide)]
      exact ⟨q.1.1, q.1.2.1, q.1.2.2.1, q.1.2.2.2.1, q.1.2.2.2.2.1⟩
    · rw [sir (by decide), si_nj (by decide), si_eq]; exact f3
  obtain ⟨hr, l, th, gr, ti, wk, L, D1, D2, D3, D4, D5, D6, D7, D8⟩ := D
  have hn40 := L.1.n
  rw [e1, e2, gb_i, gb_i, gl_s, gb_v, if_pos (show 0 ≤ nI (w * h) from nI_le (a := 0) (Nat.zero_le _) (by omega)), if_neg (show ¬ (1 : Int32) = 0 by decide), gl_s, gl_s, if_neg (show ¬ (1 : Int32) = 0 by decide), gl_s, gl_s, gl_s]
  -- the class
  obtain ⟨c2, a1, a2, a3, a4, a5⟩ := tl_c (c := g_si c1 1 1 0)
  obtain ⟨c3, b1, b2, b3, b4, b5, b6, b7, b8, b9, b10, b11⟩ := settle_c (c := c2)
  rw [a5, gb_v, b11, gb_v, gl_s, gl_s, gl_s, gl_s]
  generalize hz : g_si (g_si (g_si (g_si c3 25 1 0) 29 1 0) 41 4 0) 46 3 0 = c4
  have z14 : ∀ k, 14 ≤ k → k ≤ 24 → c4.1 k = c3.1 k := fun k x y => by rw [← hz, sir (by omega), sir (by omega), sir (by omega), sir (by omega)]
  have zlo : ∀ k, k ≤ 13 → c4.1 k = (g_si c1 1 1 0).1 k := fun k x => by rw [← hz, sir (by omega), sir (by omega), sir (by omega), sir (by omega), (b1 k (by simp; omega)).1, (a1 k (by simp; omega)).1]
  have z25 : c4.1 25 1 = 0 ∧ c4.1 29 1 = 0 ∧ c4.1 41 4 = 0 ∧ c4.1 46 3 = 0 := by
    rw [← hz]
    refine ⟨?_, ?_, ?_, ?_⟩ <;> simp [si1]
  have c14 : ∀ j, j ≤ 8 → c4.1 14 j = c1.1 4 j := fun j hj => by rw [z14 14 (by omega) (by omega), (b1 14 (by simp)).1, a2 j hj, sir (by decide)]
  have c4r : ∀ k, 15 ≤ k → k ≤ 21 → c4.1 k = c2.1 k := fun k x y => by rw [z14 k (by omega) (by omega), (b1 k (by simp; omega)).1]
  have a3' : ∀ q, q < 40 → c4.1 15 q = c1.1 5 q ∧ c4.1 16 q = c1.1 6 q ∧ c4.1 17 q = c1.1 7 q ∧ c4.1 18 q = c1.1 8 q ∧ c4.1 19 q = c1.1 9 q ∧ c4.1 21 q = c1.1 11 q := fun q hq => by
    have := a3 q hq
    rw [sir (by decide), sir (by decide), sir (by decide), sir (by decide), sir (by decide), sir (by decide)] at this
    rw [c4r 15 (by omega) (by omega), c4r 16 (by omega) (by omega), c4r 17 (by omega) (by omega), c4r 18 (by omega) (by omega), c4r 19 (by omega) (by omega), c4r 21 (by omega) (by omega)]
    exact this
  have a4' : ∀ q, q < 200 → c4.1 20 q = c1.1 10 q := fun q hq => by
    have := a4 q hq
    rw [sir (by decide)] at this
    rw [c4r 20 (by omega) (by omega)]
    exact this
  have c23 : ∀ q, q < 40 → c4.1 23 q = c1.1 7 q ∧ c4.1 24 q = c1.1 7 q := fun q hq => by
    have := b2 q hq
    rw [z14 23 (by omega) (by omega), z14 24 (by omega) (by omega), this.1, this.2, ← c4r 17 (by omega) (by omega)]
    exact ⟨(a3' q hq).2.2.1, (a3' q hq).2.2.1⟩
  have c22 : ∀ j, c3.1 22 j = c4.1 22 j := fun j => by rw [z14 22 (by omega) (by omega)]
  rw [c22] at b3 b4 b5 b6 b7 b8 b9 b10
  have c22o : c2.1 22 = c.1 22 := by rw [(a1 22 (by simp)).1, sir (by decide), (p.1 22 (by simp)).1]
  rw [c22o] at b9 b10
  have b3' : c4.1 22 3 = oI wk := by
    rw [b3, a2 3 (by omega), sir (by decide)]; exact D3.1
  -- the reference
  generalize hy : g_si (g_si (g_si (g_si (g_si m1 0 17 (-1)) 0 16 0) 0 3 ((g_si (g_si m1 0 17 (-1)) 0 16 0).1 0 22)) 0 4 ((g_si (g_si (g_si m1 0 17 (-1)) 0 16 0) 0 3 ((g_si (g_si m1 0 17 (-1)) 0 16 0).1 0 22)).1 0 23)) 0 7 ((g_si (g_si (g_si (g_si m1 0 17 (-1)) 0 16 0) 0 3 ((g_si (g_si m1 0 17 (-1)) 0 16 0).1 0 22)) 0 4 ((g_si (g_si (g_si m1 0 17 (-1)) 0 16 0) 0 3 ((g_si (g_si m1 0 17 (-1)) 0 16 0).1 0 22)).1 0 23)).1 0 30) = m2
  have yr : ∀ k, k ≠ 0 → m2.1 k = m1.1 k := fun k hk => by rw [← hy, sir hk, sir hk, sir hk, sir hk, sir hk]
  have y3 : m2.1 0 3 = nI w := by rw [← hy]; simp [si1]; exact D1.1
  have y4 : m2.1 0 4 = nI h := by rw [← hy]; simp [si1]; exact D1.2
  have y7 : m2.1 0 7 = nI hr := by rw [← hy]; simp [si1]; exact D2.2.1
  have y16 : m2.1 0 16 = 0 := by rw [← hy]; simp [si1]
  have y17 : m2.1 0 17 = -1 := by rw [← hy]; simp [si1]
  have y29 : m2.1 0 29 = m1.1 0 29 := by rw [← hy]; simp [si1]
  obtain ⟨m3, d1, d2, d3, d4⟩ := mc_64 (m0 := m2) (k := (fun v2_48 s49 => (f_X10_meadow_131  (fun v2_50 s51 => (g_bind (f_X10_cells s51) (g_ki (fun r53 s52 => (if r53 = 0 then (g_ix (80 : Int32) 88 (g_let (g_si s52 1 (80 : Int32).toNatClampNeg (-1 : Int32)) (fun s66 => (g_ix (81 : Int32) 88 (g_let (g_si s66 1 (81 : Int32).toNatClampNeg (-1 : Int32)) (fun s67 => (g_ix (82 : Int32) 88 (g_let (g_si s67 1 (82 : Int32).toNatClampNeg (-1 : Int32)) (fun s68 => (g_ix (83 : Int32) 88 (g_let (g_si s68 1 (83 : Int32).toNatClampNeg (0 : Int32)) (fun s69 => (g_ix (84 : Int32) 88 (g_let (g_si s69 1 (84 : Int32).toNatClampNeg (0 : Int32)) (fun s70 => (g_ix (85 : Int32) 88 (g_let (g_si s70 1 (85 : Int32).toNatClampNeg (0 : Int32)) (fun s71 => (g_let (g_si s71 0 11 (0 : Int32)) (fun s72 => (g_let (g_si s72 0 14 (0 : Int32)) (fun s73 => (g_ix (0 : Int32) 2 (g_let (g_si s73 3 (0 : Int32).toNatClampNeg (vp_nar .boolean (0 : Int32))) (fun s74 => (g_ix (1 : Int32) 2 (g_let (g_si s74 3 (1 : Int32).toNatClampNeg (vp_nar .boolean (0 : Int32))) (fun s75 => (g_bind (f_X10_cells s75) (g_ki (fun r77 s76 => (some (some (.int r77), s76))))))))))))))))))))))))))))))))) else (g_ix (80 : Int32) 88 (g_let (g_si s52 1 (80 : Int32).toNatClampNeg (s52.1 0 29)) (fun s54 => (g_ix (81 : Int32) 88 (g_let (g_si s54 1 (81 : Int32).toNatClampNeg (-1 : Int32)) (fun s55 => (g_ix (82 : Int32) 88 (g_let (g_si s55 1 (82 : Int32).toNatClampNeg (-1 : Int32)) (fun s56 => (g_ix (83 : Int32) 88 (g_let (g_si s56 1 (83 : Int32).toNatClampNeg (0 : Int32)) (fun s57 => (g_ix (84 : Int32) 88 (g_let (g_si s57 1 (84 : Int32).toNatClampNeg (0 : Int32)) (fun s58 => (g_ix (85 : Int32) 88 (g_let (g_si s58 1 (85 : Int32).toNatClampNeg (0 : Int32)) (fun s59 => (g_let (g_si s59 0 11 (0 : Int32)) (fun s60 => (g_let (g_si s60 0 14 (0 : Int32)) (fun s61 => (g_ix (0 : Int32) 2 (g_let (g_si s61 3 (0 : Int32).toNatClampNeg (vp_nar .boolean (0 : Int32))) (fun s62 => (g_ix (1 : Int32) 2 (g_let (g_si s62 3 (1 : Int32).toNatClampNeg (vp_nar .boolean (0 : Int32))) (fun s63 => (g_bind (f_X10_cells s63) (g_ki (fun r65 s64 => (some (some (.int r65), s64)))))))))))))))))))))))))))))))))))))) g_N (0 : Int32) s49))) g_N 0 m2 (by omega) (by unfold g_N; omega) (fun _ _ _ _ => rfl) (fun _ _ => rfl) (fun q hq => absurd hq (by omega))
  rw [← c32_0] at d4
  rw [d4]
  obtain ⟨m4, g1, g2, g3⟩ := mc_131 (m0 := m3) (k := (fun v2_50 s51 => (g_bind (f_X10_cells s51) (g_ki (fun r53 s52 => (if r53 = 0 then (g_ix (80 : Int32) 88 (g_let (g_si s52 1 (80 : Int32).toNatClampNeg (-1 : Int32)) (fun s66 => (g_ix (81 : Int32) 88 (g_let (g_si s66 1 (81 : Int32).toNatClampNeg (-1 : Int32)) (fun s67 => (g_ix (82 : Int32) 88 (g_let (g_si s67 1 (82 : Int32).toNatClampNeg (-1 : Int32)) (fun s68 => (g_ix (83 : Int32) 88 (g_let (g_si s68 1 (83 : Int32).toNatClampNeg (0 : Int32)) (fun s69 => (g_ix (84 : Int32) 88 (g_let (g_si s69 1 (84 : Int32).toNatClampNeg (0 : Int32)) (fun s70 => (g_ix (85 : Int32) 88 (g_let (g_si s70 1 (85 : Int32).toNatClampNeg (0 : Int32)) (fun s71 => (g_let (g_si s71 0 11 (0 : Int32)) (fun s72 => (g_let (g_si s72 0 14 (0 : Int32)) (fun s73 => (g_ix (0 : Int32) 2 (g_let (g_si s73 3 (0 : Int32).toNatClampNeg (vp_nar .boolean (0 : Int32))) (fun s74 => (g_ix (1 : Int32) 2 (g_let (g_si s74 3 (1 : Int32).toNatClampNeg (vp_nar .boolean (0 : Int32))) (fun s75 => (g_bind (f_X10_cells s75) (g_ki (fun r77 s76 => (some (some (.int r77), s76))))))))))))))))))))))))))))))))) else (g_ix (80 : Int32) 88 (g_let (g_si s52 1 (80 : Int32).toNatClampNeg (s52.1 0 29)) (fun s54 => (g_ix (81 : Int32) 88 (g_let (g_si s54 1 (81 : Int32).toNatClampNeg (-1 : Int32)) (fun s55 => (g_ix (82 : Int32) 88 (g_let (g_si s55 1 (82 : Int32).toNatClampNeg (-1 : Int32)) (fun s56 => (g_ix (83 : Int32) 88 (g_let (g_si s56 1 (83 : Int32).toNatClampNeg (0 : Int32)) (fun s57 => (g_ix (84 : Int32) 88 (g_let (g_si s57 1 (84 : Int32).toNatClampNeg (0 : Int32)) (fun s58 => (g_ix (85 : Int32) 88 (g_let (g_si s58 1 (85 : Int32).toNatClampNeg (0 : Int32)) (fun s59 => (g_let (g_si s59 0 11 (0 : Int32)) (fun s60 => (g_let (g_si s60 0 14 (0 : Int32)) (fun s61 => (g_ix (0 : Int32) 2 (g_let (g_si s61 3 (0 : Int32).toNatClampNeg (vp_nar .boolean (0 : Int32))) (fun s62 => (g_ix (1 : Int32) 2 (g_let (g_si s62 3 (1 : Int32).toNatClampNeg (vp_nar .boolean (0 : Int32))) (fun s63 => (g_bind (f_X10_cells s63) (g_ki (fun r65 s64 => (some (some (.int r65), s64))))))))))))))))))))))))))))))))))))))) g_N 0 m3 (by omega) (by unfold g_N; omega) (fun _ _ => rfl) (fun q hq => absurd hq (by omega))
  rw [← c32_0] at g3
  rw [g3]
  have e40 : m4.1 0 = m2.1 0 := by rw [g1 0 (by decide), d1 0 (by decide) (by decide) (by decide)]
  have M4 : Md m4 w h := ⟨L.1, by rw [e40]; exact y3, by rw [e40]; exact y4⟩
  have M5 : ∀ v, Md (mZ m4 v) w h := fun v => ⟨L.1, by rw [mZ_0 (by decide)]; exact M4.2.1, by rw [mZ_0 (by decide)]; exact M4.2.2⟩
  have key : ∀ v, v = oI wk → Rel c4 (mZ m4 v) := fun v hv => by
    obtain ⟨v1, v2, v3, v4, v5, v6, v7⟩ := mZ_1 (s := m4) (v := v)
    obtain ⟨u1, u2, u3, u4⟩ := mZ_z (s := m4) (v := v)
    have e41 : m4.1 1 = m3.1 1 := g1 1 (by decide)
    have r1 : ∀ q, q < 40 → (mZ m4 v).1 1 q = m1.1 12 q ∧ (mZ m4 v).1 1 (40 + q) = m1.1 12 q := fun q hq => by
      have := d3 q hq
      rw [yr 12 (by decide)] at this
      rw [v1 q (by omega), v1 (40 + q) (by omega), e41]
      exact this.2.2
    have r45 : ∀ q, q < 40 → (mZ m4 v).1 4 q = m1.1 14 q ∧ (mZ m4 v).1 5 q = m1.1 13 q := fun q hq => by
      have := d3 q hq
      rw [yr 14 (by decide), yr 13 (by decide)] at this
      rw [mZ_r (by decide), mZ_r (by decide), g1 4 (by decide), g1 5 (by decide)]
      exact ⟨this.1, this.2.1⟩
    have m86 : ∀ j, 86 ≤ j → (mZ m4 v).1 1 j = m.1 1 j := fun j hj => by rw [v1 j (by omega), e41, d2 j (by omega), yr 1 (by decide), q.2 1 (by decide) (by decide)]
    refine ⟨w, h, hr, l, th, ti, ⟨⟨L.1, ?_, ?_, ?_, fun q hq => ?_⟩, M5 v, ⟨?_, ?_, D2.2.2⟩, ⟨fun i hi => ?_, fun q hq => ?_⟩, fun i hi _ => ?_, fun q hq => ?_, fun q hq => ?_⟩, ⟨gr, gr, wk, none, none, law, sd, fun q hq => ?_, ⟨b3', by rw [show 0 + 80 = 80 from rfl, v2]; exact hv, D3.2.2.1⟩, ⟨b4, by rw [show 0 + 81 = 81 from rfl, v3]; rfl, fun q z => absurd z (by simp)⟩, ⟨b5, by rw [show 0 + 82 = 82 from rfl, v4]; rfl, fun q z => absurd z (by simp)⟩, by rw [show 0 + 83 = 83 from rfl, v5]; exact b6, by rw [show 0 + 84 = 84 from rfl, v6]; exact b7, by rw [show 0 + 85 = 85 from rfl, v7]; exact b8, ⟨?_, ?_, lw.2.2⟩, ?_, ?_, sdd.2.2.1, D3.2.2.2⟩, ⟨?_, Or.inl u3⟩, ⟨?_, Or.inl u4⟩, ⟨0, by omega, z25.2.2.1, u1, fun k hk => absurd hk (by omega)⟩, ⟨0, by omega, z25.2.2.2, u2, fun k hk => absurd hk (by omega)⟩, ⟨0, by omega, ?_, ?_, fun k hk => absurd hk (by omega)⟩, ?_⟩
    · rw [c14 0 (by omega)]; exact L.2.1
    · rw [c14 1 (by omega)]; exact L.2.2.1
    · rw [c14 2 (by omega)]; exact L.2.2.2.1
    · obtain ⟨x1, x2, x3, x4⟩ := L.2.2.2.2 q hq
      obtain ⟨s1, s2, s3, s4, s5, s6⟩ := a3' q (by omega)
      have hl5 := (way_len L.1 hq).2.1
      exact ⟨s1.trans x1, s2.trans x2, s6.trans x3, fun i hi => (a4' _ (by omega)).trans (x4 i hi)⟩
    · rw [c14 4 (by omega)]; exact D2.1
    · rw [mZ_0 (by decide), e40]; exact y7
    · rw [c14 (5 + i) (by omega)]; exact ⟨(D4 i hi).1, (D4 i hi).2.2⟩
    · exact ⟨(a3' q (by omega)).2.2.2.1.trans (D5 q hq).1, (D5 q hq).2.2⟩
    · rw [mZ_r (by decide), g2 i hi, d1 17 (by decide) (by decide) (by decide), yr 17 (by decide)]; exact (D4 i hi).2.1
    · exact (r45 q (by omega)).1.trans (D5 q hq).2.1
    · exact ⟨(a3' q (by omega)).2.2.2.2.1.trans (D7 q hq).1, (r45 q (by omega)).2.trans (D7 q hq).2.1, (D7 q hq).2.2⟩
    · have hg := (D6 q hq).2.2
      refine ⟨(c23 q (by omega)).1.trans (D6 q hq).1, ?_, by omega, (c23 q (by omega)).2.trans (D6 q hq).1, ?_, by omega⟩
      · rw [Nat.zero_add]; exact (r1 q (by omega)).1.trans (D6 q hq).2.1
      · rw [Nat.zero_add]; exact (r1 q (by omega)).2.trans (D6 q hq).2.1
    · rw [b9]; exact lw.1
    · rw [show 0 + 86 = 86 from rfl, m86 86 (by omega)]; exact lw.2.1
    · rw [b10]; exact sdd.1
    · rw [show 0 + 87 = 87 from rfl, m86 87 (by omega)]; exact sdd.2.1
    · rw [u3]; exact z25.1
    · rw [u4]; exact z25.2.1
    · rw [zlo 1 (by omega), si_eq]; rfl
    · rw [mZ_0 (by decide), e40, y16]; rfl
    · rw [zlo 3 (by omega), sir (by decide), mZ_0 (by decide), e40, y17]; exact D8
  have i80 : ∀ o : gR, g_ix 80 88 o = o := fun o => g_ixn (k := 80) (by omega) (by omega)
  have i81 : ∀ o : gR, g_ix 81 88 o = o := fun o => g_ixn (k := 81) (by omega) (by omega)
  have i82 : ∀ o : gR, g_ix 82 88 o = o := fun o => g_ixn (k := 82) (by omega) (by omega)
  have i83 : ∀ o : gR, g_ix 83 88 o = o := fun o => g_ixn (k := 83) (by omega) (by omega)
  have i84 : ∀ o : gR, g_ix 84 88 o = o := fun o => g_ixn (k := 84) (by omega) (by omega)
  have i85 : ∀ o : gR, g_ix 85 88 o = o := fun o => g_ixn (k := 85) (by omega) (by omega)
  have j0 : ∀ o : gR, g_ix 0 2 o = o := fun o => g_ixn (k := 0) (by omega) (by omega)
  have j1 : ∀ o : gR, g_ix 1 2 o = o := fun o => g_ixn (k := 1) (by omega) (by omega)
  rw [cells_m M4, gb_i]
  by_cases e : w * h = 0
  · rw [if_pos (show nI (w * h) = 0 by rw [e]; rfl), i80, gl_s, i81, gl_s, i82, gl_s, i83, gl_s, i84, gl_s, i85, gl_s, gl_s, gl_s, j0, gl_s, j1, gl_s]
    have hwk : wk = none := by
      cases hk : wk with
      | none => rfl
      | some t => have := D3.2.2.1 t hk; omega
    refine Ag.mk' rfl ?_ rfl (key (-1) (by rw [hwk]; rfl))
    have := cells_m (M5 (-1))
    exact (congrArg (fun o => g_bind o (g_ki (fun r77 s76 => (some (some (.int r77), s76))))) this).trans gb_i
  · rw [if_neg (show ¬ nI (w * h) = 0 from fun z => e ((nI_eq (b := 0) (by omega) (by omega)).mp z)), i80, gl_s, i81, gl_s, i82, gl_s, i83, gl_s, i84, gl_s, i85, gl_s, gl_s, gl_s, j0, gl_s, j1, gl_s]
    have hv : m4.1 0 29 = oI wk := by rw [e40, y29]; exact D3.2.1 (by omega)
    refine Ag.mk' rfl ?_ rfl (key (m4.1 0 29) hv)
    have := cells_m (M5 (m4.1 0 29))
    exact (congrArg (fun o => g_bind o (g_ki (fun r77 s76 => (some (some (.int r77), s76))))) this).trans gb_i
