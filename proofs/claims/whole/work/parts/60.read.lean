/-! Reading, whole -/
def RD (c m : gS) (w h : Nat) : Prop := ∃ (hr : Nat) (l th gr ti : Nat → Nat) (wk : Option Nat), Ld c 4 w h ∧ (m.1 0 22 = nI w ∧ m.1 0 23 = nI h) ∧ (c.1 4 4 = nI hr ∧ m.1 0 30 = nI hr ∧ 1 ≤ hr ∧ hr ≤ 8) ∧ (c.1 4 3 = oI wk ∧ (0 < w * h → m.1 0 29 = oI wk) ∧ (∀ q, wk = some q → q < w * h) ∧ (wk = none → w * h = 0)) ∧ (∀ i, i < 4 → c.1 4 (5 + i) = nI (l i) ∧ m.1 17 i = nI (l i) ∧ l i ≤ 9) ∧ (∀ q, q < w * h → c.1 8 q = nI (th q) ∧ m.1 14 q = nI (th q) ∧ th q < 8) ∧ (∀ q, q < w * h → c.1 7 q = nI (gr q) ∧ m.1 12 q = nI (gr q) ∧ gr q ≤ 9) ∧ (∀ q, q < w * h → c.1 9 q = nI (ti q) ∧ m.1 13 q = nI (ti q) ∧ ti q ≤ 99) ∧ c.1 3 10 = -1
theorem DD.rd {c m : gS} {w h : Nat} (D : DD c m w h) : RD c m w h := by
  obtain ⟨hr, wq, ng, nt, nk, l, th, gr, ti, L, D1, D2, D3, D4, D5, D6, D7, D8, D9, D10, D11, D12, D13, D14, D15⟩ := D
  exact ⟨hr, l, th, gr, ti, some wq, L, D1, D2, ⟨D3.1, fun _ => D3.2.1, fun q hq => by rw [← Option.some.inj hq]; exact D3.2.2, fun z => absurd z (by simp)⟩, D4, D5, D6, D7, D14.2.2⟩
theorem DD.f1 {c c' m : gS} {w h : Nat} (D : DD c m w h) (f : F1 c c') : DD c' m w h := by
  unfold DD at *
  obtain ⟨hr, wq, ng, nt, nk, l, th, gr, ti, L, D1⟩ := D
  refine ⟨hr, wq, ng, nt, nk, l, th, gr, ti, L.congr (fun k a b => (f.1 k (by simp; omega)).1), ?_⟩
  rw [(f.1 3 (by simp)).1, (f.1 4 (by simp)).1, (f.1 7 (by simp)).1, (f.1 8 (by simp)).1, (f.1 9 (by simp)).1, (f.1 12 (by simp)).1, (f.1 13 (by simp)).1]
  exact D1
section READO
variable {T : Nat → Int32} {len : Nat}
theorem read_o {c m : gS} (hc : TC c T len) (hm : TM m T len) :
    (∃ w h c' m', PF c c' ∧ Mk m m' ∧ RD c' m' w h ∧ f_X5_read c = some (some (.int (nI (w * h))), c') ∧ f_X10_readsAll m = some (some (.int 1), m')) ∨
    (∃ f c' m', PF c c' ∧ Mk m m' ∧ 1 ≤ f ∧ f ≤ 4 ∧ c'.1 3 10 = m'.1 0 18 ∧ m'.1 0 37 = nI f ∧ f_X5_read c = some (some (.int (-10 - nI f)), c') ∧ f_X10_readsAll m = some (some (.int 0), m')) := by
  have gN : g_N = (g_N - 1) + 1 := by unfold g_N; omega
  obtain ⟨c1, p1, b1, b2, b3, b4, b5, b6, b7, b8, b9, b10, b11⟩ := begin_c (c := c)
  obtain ⟨m1, q1, n1, n2, n3, n4, n5, n6, n7, n8⟩ := nothing_m (m := m)
  have hc1 : TC c1 T len := ⟨hc.1, by rw [p1.2]; exact hc.2.1, by rw [(p1.1 2 (by simp)).1]; exact hc.2.2⟩
  have hm1 : TM m1 T len := ⟨hm.1, by rw [q1.1.2.2.2.2.2.1]; exact hm.2.1, by rw [q1.2 11 (by decide) (by decide)]; exact hm.2.2⟩
  obtain ⟨kd, st, en, hk⟩ := Tk.ex (T := T) (len := len) (p := 0) (Nat.zero_le _)
  obtain ⟨m2, g1, g2, la, e2⟩ := lk_m hm1 hk
  have G : G1 m1 m2 := ⟨g1, g2⟩
  have s : SB c1 m2 T len 0 kd st en := ⟨hc1, hm1.g1 G, b1, Nat.zero_le _, hk, la⟩
  obtain ⟨c2, f2, e1, sa⟩ := s.nt
  have F : ∀ k, k ≠ 1 → c2.1 k = c1.1 k := fun k hk => (f2.1 k (by simp; exact hk)).1
  have m2r : ∀ r, r ≠ 0 → m2.1 r = m1.1 r := g1
  have m2z : ∀ j, 22 ≤ j → m2.1 0 j = m1.1 0 j := fun j hj => g2 j (by omega) (by omega) (by omega) (by omega)
  have D : D0 c2 m2 := by
    unfold D0
    rw [F 3 (by decide), F 12 (by decide), F 13 (by decide), m2z 29 (by omega), m2z 30 (by omega), m2r 17 (by decide), m2r 12 (by decide), m2r 13 (by decide), m2r 14 (by decide), m2r 15 (by decide), m2r 16 (by decide)]
    exact ⟨b8, b9, b10, n3, n4, n5, fun j j1 j2 => by rw [m2z j (by omega)]; exact n6 j j1 j2, n7⟩
  have P2 : PF c c2 := p1.tr f2.pf
  have Q2 : Mk m m2 := q1.tr (Mk.p0 g1 (fun j hj => g2 j (by omega) (by omega) (by omega) (by omega)))
  unfold f_X5_read f_X10_readsAll
  rw [b11, gb_v, e1, gb_v, n8, gb_v, c32_0, e2, gb_v, sa.2.2.1, la.2.2.1]
  obtain ⟨k1, k2, k3, k4, k5, k6⟩ := hk.b
  by_cases e : kd = 0
  · refine Or.inl ⟨0, 0, c2, m2, P2, Q2, ?_, ?_, ?_⟩
    · refine ⟨4, lk0, fun _ => 0, fun _ => 0, fun _ => 0, none, ⟨Or.inl ⟨rfl, rfl⟩, by rw [F 4 (by decide)]; exact b2, by rw [F 4 (by decide)]; exact b3, by rw [F 4 (by decide)]; exact b4, fun q hq => absurd hq (by omega)⟩, ⟨by rw [m2z 22 (by omega)]; exact n1, by rw [m2z 23 (by omega)]; exact n2⟩, ⟨by rw [F 4 (by decide)]; exact b6, by rw [m2z 30 (by omega)]; exact n4, by omega, by omega⟩, ⟨by rw [F 4 (by decide)]; exact b5, fun z => absurd z (by omega), fun q z => absurd z (by simp), fun _ => rfl⟩, fun i hi => ?_, fun q hq => absurd hq (by omega), fun q hq => absurd hq (by omega), fun q hq => absurd hq (by omega), by rw [F 3 (by decide)]; exact b9⟩
      rw [F 4 (by decide), m2r 17 (by decide)]
      rcases (show i = 0 ∨ i = 1 ∨ i = 2 ∨ i = 3 by omega) with rfl | rfl | rfl | rfl
      · exact ⟨b7.1, n5.1, by decide⟩
      · exact ⟨b7.2.1, n5.2.1, by decide⟩
      · exact ⟨b7.2.2.1, n5.2.2.1, by decide⟩
      · exact ⟨b7.2.2.2, n5.2.2.2, by decide⟩
    · rw [if_pos (show nI kd = nI 0 by rw [e]), if_pos (show c2.1 3 9 = nI 0 by rw [F 3 (by decide)]; exact b8 9 (by omega) (by omega)), F 4 (by decide), b4]
    · rw [if_pos (show nI kd = nI 0 by rw [e])]
  rw [if_neg (show ¬ nI kd = nI 0 from fun z => e ((nI_eq (by omega) (by omega)).mp z)), if_neg (show ¬ nI kd = nI 0 from fun z => e ((nI_eq (by omega) (by omega)).mp z))]
  obtain ⟨w, h, o⟩ := size_o sa D
  rcases o with ⟨c3, m3, p', kd', st', en', s3, lt, P3, Q3, D3, e3, e4⟩ | ⟨c3, m3, P3, Q3, fl, e3, e4⟩
  · rw [e3, e4, gb_i, gb_i, if_neg (show ¬ (1 : Int32) = nI 0 by decide)]
    obtain ⟨c4, f4, e5, sa4⟩ := s3.nt
    rw [e5, gb_v]
    rcases read_l (c0 := c4) (m0 := m3) 500 g_N g_N 0 kd' st' en' c4 m3 rfl (by omega) (by unfold g_N; omega) (by unfold g_N; omega) sa4 s3.2.2.2.2.1.b.2.2.2.2.2 (D3.f1 f4) (Nat.zero_le _) ⟨Sm.rf, rfl⟩ (Mk.of1 rfl) with ⟨c', m', x, z1, z2, z3, z4, z5⟩ | ⟨c', m', x, z1, z2, z3, z4, z5⟩
    · rw [z4, z5]
      have R := z3.rd
      obtain ⟨hr, wq, ng, nt, nk, l, th, gr, ti, L, D1, D2, D3, D4, D5, D6, D7, D8, D9, D10, D11, D12, D13, D14, D15⟩ := z3
      rw [if_pos (show c'.1 3 9 = nI 0 from D14.1), L.2.2.2.1]
      exact Or.inl ⟨w, h, c', m', ((P2.tr P3).tr f4.pf).tr z1, (Q2.tr Q3).tr z2, R, rfl, rfl⟩
    · rw [z4, z5]
      obtain ⟨f, stf, f1, f4', f5, f6, f7, f8⟩ := z3
      rw [if_neg (show ¬ c'.1 3 9 = nI 0 from fun z => by rw [f5, nI_eq (by omega) (by omega)] at z; omega), f5]
      exact Or.inr ⟨f, c', m', ((P2.tr P3).tr f4.pf).tr z1, (Q2.tr Q3).tr z2, f1, f4', by rw [f7, f8], f6, rfl, rfl⟩
  · obtain ⟨f, stf, f1, f4', f5, f6, f7, f8⟩ := fl
    rw [e3, e4, gb_i, gb_i, if_pos (show (0 : Int32) = nI 0 from rfl), gN, f_X10_readsAll_23.eq_2, if_pos rfl]
    rw [if_neg (show ¬ c3.1 3 9 = nI 0 from fun z => by rw [f5, nI_eq (by omega) (by omega)] at z; omega), f5]
    exact Or.inr ⟨f, c3, m3, P2.tr P3, Q2.tr Q3, f1, f4', by rw [f7, f8], f6, rfl, rfl⟩
end READO
