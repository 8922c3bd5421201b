/-! An entry that gives a cell a number -/
def mV (fb fe : Nat) (hi : Int32) (s2 : gS) : gR := (g_bind (f_X10_takesX s2) (g_ki (fun r4 s3 => (if r4 = 0 then (some (some (.int (0 : Int32)), s3)) else (g_bind (f_X10_seesY (s3.1 0 38) s3) (g_ki (fun r6 s5 => (if r6 = 0 then (some (some (.int (0 : Int32)), s5)) else (g_ix (s5.1 0 39) 40 (if (s5.1 fb (s5.1 0 39).toNatClampNeg) = 0 then (g_ix (s5.1 0 39) 40 (g_let (g_si s5 fb (s5.1 0 39).toNatClampNeg (vp_nar .boolean (1 : Int32))) (fun s7 => (g_leti (s7.1 0 39) (fun v1_8 => (g_bind (f_X10_goOn s7) (g_kv (fun s9 => (g_bind (f_X10_takes (0 : Int32) hi s9) (g_ki (fun r11 s10 => (if r11 = 0 then (some (some (.int (0 : Int32)), s10)) else (g_ix v1_8 40 (g_let (g_si s10 fe v1_8.toNatClampNeg (s10.1 0 38)) (fun s12 => (g_bind (f_X10_stops s12) (g_ki (fun r14 s13 => (g_01 r14 (some (some (.int r14), s13))))))))))))))))))))) else (g_bind (f_X10_faults (4 : Int32) s5) (g_ki (fun r16 s15 => (g_01 r16 (some (some (.int r16), s15))))))))))))))))
theorem Mk.p0' {m m' : gS} (h : ∀ r, 1 ≤ r → r ≤ 11 → m'.1 r = m.1 r) (h0 : ∀ j, j ≤ 17 → m'.1 0 j = m.1 0 j) : Mk m m' := ⟨⟨h0 3 (by decide), h0 4 (by decide), h0 7 (by decide), h0 11 (by decide), h0 14 (by decide), h0 16 (by decide), h0 17 (by decide)⟩, h⟩
theorem row_si {σ : gS} {k q j : Nat} {v : Int32} : (g_si σ k q v).1 k j = if j = q then v else σ.1 k j := by
  rw [si1]
  by_cases e : j = q
  · rw [if_pos ⟨rfl, e⟩, if_pos e]
  · rw [if_neg (fun z => e z.2), if_neg e]
section VALUE
variable {T : Nat → Int32} {len : Nat}
theorem SA.ci {c m : gS} {kd st en k j : Nat} {v : Int32} (s : SA c m T len kd st en) (h1 : k ≠ 1) (h2 : k ≠ 2) : SA (g_si c k j v) m T len kd st en := by
  obtain ⟨a1, a2, a3, a4, a5, a6⟩ := s
  exact ⟨⟨a1.1, by rw [sir (Ne.symm h1)]; exact a1.2.1, by rw [sir (Ne.symm h2)]; exact a1.2.2⟩, a2, by rw [sir (Ne.symm h1)]; exact a3, by rw [sir (Ne.symm h1)]; exact a4, by rw [sir (Ne.symm h1)]; exact a5, a6⟩
theorem SA.mi {c m : gS} {kd st en k j : Nat} {v : Int32} (s : SA c m T len kd st en) (h1 : k ≠ 0) (h2 : k ≠ 11) : SA c (g_si m k j v) T len kd st en := by
  obtain ⟨a1, a2, a3, a4, a5, a6, a7⟩ := s
  exact ⟨a1, ⟨a2.1, by rw [sir (Ne.symm h1)]; exact a2.2.1, by rw [sir (Ne.symm h2)]; exact a2.2.2⟩, a3, a4, a5, by unfold LA at *; rw [sir (Ne.symm h1)]; exact a6, a7⟩
theorem SB.ci {c m : gS} {p kd st en k j : Nat} {v : Int32} (s : SB c m T len p kd st en) (h1 : k ≠ 1) (h2 : k ≠ 2) : SB (g_si c k j v) m T len p kd st en := by
  obtain ⟨a1, a2, a3, a4⟩ := s
  exact ⟨⟨a1.1, by rw [sir (Ne.symm h1)]; exact a1.2.1, by rw [sir (Ne.symm h2)]; exact a1.2.2⟩, a2, by rw [sir (Ne.symm h1)]; exact a3, a4⟩
theorem SB.mi {c m : gS} {p kd st en k j : Nat} {v : Int32} (s : SB c m T len p kd st en) (h1 : k ≠ 0) (h2 : k ≠ 11) : SB c (g_si m k j v) T len p kd st en := by
  obtain ⟨a1, a2, a3, a4, a5, a6⟩ := s
  exact ⟨a1, ⟨a2.1, by rw [sir (Ne.symm h1)]; exact a2.2.1, by rw [sir (Ne.symm h2)]; exact a2.2.2⟩, a3, a4, a5, by unfold LA at *; rw [sir (Ne.symm h1)]; exact a6⟩
theorem SB.value {c m : gS} {p kd st en w h b e fb fe hi : Nat} (hbe : (b = 12 ∧ e = 7 ∧ fb = 15 ∧ fe = 12) ∨ (b = 13 ∧ e = 9 ∧ fb = 16 ∧ fe = 13)) (s : SB c m T len p kd st en) (L : Ld c 4 w h) (h22 : m.1 0 22 = nI w) (h23 : m.1 0 23 = nI h) (hn : 0 < w * h) (hf : ∀ q, q < w * h → c.1 b q = m.1 fb q) (hi9 : hi ≤ 99) :
    (∃ c' m' q x p' kd' st' en', SB c' m' T len p' kd' st' en' ∧ p < p' ∧ q < w * h ∧ x ≤ hi ∧ Sm [1, b, e] c c' ∧ (∀ j, j ≠ 2 → j ≠ 3 → j ≠ 4 → c'.1 1 j = c.1 1 j) ∧ (∀ j, c'.1 b j = if j = q then 1 else c.1 b j) ∧ (∀ j, c'.1 e j = if j = q then nI x else c.1 e j) ∧ (∀ r, r ≠ 0 → r ≠ fb → r ≠ fe → m'.1 r = m.1 r) ∧ (∀ j, j ≠ 18 → j ≠ 19 → j ≠ 20 → j ≠ 21 → j ≠ 38 → j ≠ 39 → m'.1 0 j = m.1 0 j) ∧ (∀ j, m'.1 fb j = if j = q then 1 else m.1 fb j) ∧ (∀ j, m'.1 fe j = if j = q then nI x else m.1 fe j) ∧ f_X5_readValue b e (nI hi) c = some (some (.int 1), c') ∧ mV fb fe (nI hi) m = some (some (.int 1), m')) ∨
    (∃ c' m', PF c c' ∧ Mk m m' ∧ FL c' m' ∧ f_X5_readValue b e (nI hi) c = some (some (.int 0), c') ∧ mV fb fe (nI hi) m = some (some (.int 0), m')) := by
  have hn40 := L.1.n
  have hb1 : b ≠ 1 ∧ b ≠ 2 ∧ b ≠ 3 ∧ b ≠ 4 ∧ b ≠ e ∧ e ≠ 1 ∧ e ≠ 2 ∧ e ≠ 3 ∧ 4 ≤ e ∧ e ≤ 13 ∧ b ≤ 13 ∧ 4 ≤ b ∧ fb ≠ 0 ∧ fb ≠ 11 ∧ fe ≠ 0 ∧ fe ≠ 11 ∧ fb ≠ fe ∧ 12 ≤ fb ∧ 12 ≤ fe := by omega
  obtain ⟨b1, b2, b3, b4, b5, b6, b7, b8, b9, b10, b11, b12, b13, b14, b15, b16, b17, b18, b19⟩ := hb1
  unfold f_X5_readValue mV
  rcases s.cell L h22 h23 hn with ⟨c1, m1, q, kd1, st1, en1, f1, g1, g2, q1, q2, sa, lt, e1, e2⟩ | ⟨c', m', p1, p2, p3, e1, e2⟩
  · have L1 : Ld c1 4 w h := L.congr (fun k a b => (f1.1 k (by simp; omega)).1)
    rw [e1, gb_i, has_in L1 q1, gb_i, i10, show (40 : Int32) = nI 40 from rfl, if_neg (by rw [nI_leI (by omega) (by omega)]; omega), if_pos ((nI_ltI (by omega) (by omega)).mpr (by omega)), g_ixn (by omega) (by omega), nI_clamp (by omega), (f1.1 b (by simp; exact b1)).1, e2, q2, g_ixn (by omega) (by omega), nI_clamp (by omega), g1 fb b13, hf q q1]
    by_cases ez : m.1 fb q = 0
    · rw [if_pos ez, if_pos ez, g_ixn (by omega) (by omega), g_ixn (by omega) (by omega), gl_s, gl_s, gl_i, nb1, sir (a := 0) (k := fb) (Ne.symm b13), q2]
      have sa2 := (sa.ci (k := b) (j := q) (v := 1) b1 b2).mi (k := fb) (j := q) (v := 1) b13 b14
      obtain ⟨m2, kd2, st2, en2, g3, g4, sb2⟩ := sa2.go
      rw [g4, gb_v]
      rcases sb2.num (lo := 0) (hi := hi) hi9 (by omega) with ⟨c3, m3, x, kd3, st3, en3, f3, g5, g6, x1, x2, g7, sb3, lt3, e3, e4⟩ | ⟨c', m', p1, p1', p2, p3, p4, e3, e4⟩
      · rw [c32_0, e3, e4, gb_i, gb_i, if_pos (nI_le (Nat.zero_le _) (by omega)), g_ixn (by omega) (by omega), nI_clamp (by omega), if_neg (by decide), g_ixn (by omega) (by omega), gl_s, gl_s, g7]
        have sb4 := (sb3.ci (k := e) (j := q) (v := nI x) b6 b7).mi (k := fe) (j := q) (v := nI x) b15 b16
        have o1 := sb2.2.2.2.2.1.1.1
        have o2 := sb3.2.2.2.2.1.1.1
        rcases sb4.stop with ⟨c5, m5, kd5, st5, en5, f5, g8, sb5, lt5, e5, e6⟩ | ⟨c', m', p1, p1', p2, p3, p4, e5, e6⟩
        · rw [e5, e6, gb_i, gb_i]
          refine Or.inl ⟨c5, m5, q, x, en3, kd5, st5, en5, sb5, by omega, q1, x2, ?_, ?_, ?_, ?_, ?_, ?_, ?_, ?_, rfl, rfl⟩
          · exact ((((f1.1.mono (fun k hk => by simp at hk ⊢; omega)).tr (Sm.si (by simp))).tr (f3.1.mono (fun k hk => by simp at hk ⊢; omega))).tr (Sm.si (by simp))).tr (f5.1.mono (fun k hk => by simp at hk ⊢; omega))
          · intro j a d z
            rw [f5.2 j a d z, sir (Ne.symm b6), f3.2 j a d z, sir (Ne.symm b1), f1.2 j a d z]
          · intro j
            rw [(f5.1 b (by simp; exact b1)).1, sir b5, (f3.1 b (by simp; exact b1)).1, row_si, (f1.1 b (by simp; exact b1)).1]
          · intro j
            rw [(f5.1 e (by simp; exact b6)).1, row_si, (f3.1 e (by simp; exact b6)).1, sir (Ne.symm b5), (f1.1 e (by simp; exact b6)).1]
          · intro r x y z
            rw [g8.1 r x, sir z, g5 r x, g3.1 r x, sir y, g1 r x]
          · intro j x y z u v a
            rw [g8.2 j x y z u, sir (Ne.symm b15), g6 j x y z u v, g3.2 j x y z u, sir (Ne.symm b13), g2 j x y z u v a]
          · intro j
            rw [g8.1 fb b13, sir b17, g5 fb b13, g3.1 fb b13, row_si, g1 fb b13]
          · intro j
            rw [g8.1 fe b15, row_si, g5 fe b15, g3.1 fe b15, sir (Ne.symm b17), g1 fe b15]
        · rw [e5, e6, gb_i, gb_i]
          refine Or.inr ⟨c', m', ?_, ?_, p4, rfl, rfl⟩
          · refine ((f1.pf.tr ⟨Sm.si (by simp; omega), by rw [sir (Ne.symm b1)]⟩).tr (f3.pf.tr ⟨Sm.si (by simp; omega), by rw [sir (Ne.symm b6)]⟩)).tr (PF.f3 p1 p1')
          · refine Mk.p0' (fun r a d => ?_) (fun j a => ?_)
            · rw [p2 r (by omega), sir (by omega), g5 r (by omega), g3.1 r (by omega), sir (by omega), g1 r (by omega)]
            · rw [p3 j (by omega), sir (Ne.symm b15), g6 j (by omega) (by omega) (by omega) (by omega) (by omega), g3.2 j (by omega) (by omega) (by omega) (by omega), sir (Ne.symm b13), g2 j (by omega) (by omega) (by omega) (by omega) (by omega) (by omega)]
      · rw [c32_0, e3, e4, gb_i, gb_i, if_neg (neg_nle (by decide) (by omega)), if_pos (show (0 : Int32) = nI 0 from rfl)]
        refine Or.inr ⟨c', m', ?_, ?_, p4, rfl, rfl⟩
        · exact (f1.pf.tr ⟨Sm.si (by simp; omega), by rw [sir (Ne.symm b1)]⟩).tr (PF.f3 p1 p1')
        · refine Mk.p0' (fun r a d => ?_) (fun j a => ?_)
          · rw [p2 r (by omega), g3.1 r (by omega), sir (by omega), g1 r (by omega)]
          · rw [p3 j (by omega), g3.2 j (by omega) (by omega) (by omega) (by omega), sir (Ne.symm b13), g2 j (by omega) (by omega) (by omega) (by omega) (by omega) (by omega)]
    · rw [if_neg ez, if_neg ez, g_ixn (by omega) (by omega)]
      obtain ⟨c', m', p1, p2, p3, p4, p5, p6⟩ := sa.fail 4 (by omega) (by omega)
      rw [show (4 : Int32) = nI 4 from rfl, p5, p6, gb_i, gb_i]
      refine Or.inr ⟨c', m', f1.pf.tr (PF.f3 (p1.mono (fun k hk => by simp at hk ⊢; omega)) (fun j _ _ _ => by rw [(p1 1 (by simp)).1])), Mk.p0 (fun r hr => (p2 r hr).trans (g1 r hr)) (fun j hj => (p3 j (by omega)).trans (g2 j (by omega) (by omega) (by omega) (by omega) (by omega) (by omega))), p4, rfl, rfl⟩
  · refine Or.inr ⟨c', m', p1, p2, p3, ?_, ?_⟩
    · rw [e1, gb_i, has_no, gb_i, i00]
    · rw [e2]
end VALUE
