/-! The entries of the cow and of the likes -/
def mCow (s : gS) : gR := (g_let (g_si s 0 35 (1 : Int32)) (fun s1 => (g_bind (f_X10_goOn s1) (g_kv (fun s2 => (g_bind (f_X10_takesX s2) (g_ki (fun r4 s3 => (if r4 = 0 then (some (some (.int (0 : Int32)), s3)) else (g_bind (f_X10_seesY (s3.1 0 38) s3) (g_ki (fun r6 s5 => (if r6 = 0 then (some (some (.int (0 : Int32)), s5)) else (g_let (g_si s5 0 29 (s5.1 0 39)) (fun s7 => (g_bind (f_X10_goOn s7) (g_kv (fun s8 => (g_bind (f_X10_takes (1 : Int32) (8 : Int32) s8) (g_ki (fun r10 s9 => (if r10 = 0 then (some (some (.int (0 : Int32)), s9)) else (g_let (g_si s9 0 30 (s9.1 0 38)) (fun s11 => (g_bind (f_X10_stops s11) (g_ki (fun r13 s12 => (g_01 r13 (some (some (.int r13), s12))))))))))))))))))))))))))))))
def mLik (s : gS) : gR := (g_let (g_si s 0 36 (1 : Int32)) (fun s1 => (g_bind (f_X10_goOn s1) (g_kv (fun s2 => (f_X10_readsLikes_24  (fun v1_6 s7 => (g_bind (f_X10_stops s7) (g_ki (fun r9 s8 => (g_01 r9 (some (some (.int r9), s8))))))) g_N (0 : Int32) s2))))))
section COW
variable {T : Nat → Int32} {len : Nat}
theorem SA.m0 {c m : gS} {kd st en j : Nat} {v : Int32} (s : SA c m T len kd st en) (h1 : j ≠ 16) (h2 : j ≠ 18) (h3 : j ≠ 19) (h4 : j ≠ 20) (h5 : j ≠ 21) : SA c (g_si m 0 j v) T len kd st en := by
  obtain ⟨a1, a2, a3, a4, a5, a6, a7⟩ := s
  exact ⟨a1, a2.si h1, a3, a4, a5, ⟨by rw [si_nj (Ne.symm h2)]; exact a6.1, by rw [si_nj (Ne.symm h3)]; exact a6.2.1, by rw [si_nj (Ne.symm h4)]; exact a6.2.2.1, fun z => by rw [si_nj (Ne.symm h5)]; exact a6.2.2.2 z⟩, a7⟩
theorem SB.m0 {c m : gS} {p kd st en j : Nat} {v : Int32} (s : SB c m T len p kd st en) (h1 : j ≠ 16) (h2 : j ≠ 18) (h3 : j ≠ 19) (h4 : j ≠ 20) (h5 : j ≠ 21) : SB c (g_si m 0 j v) T len p kd st en := by
  obtain ⟨a1, a2, a3, a4, a5, a6⟩ := s
  exact ⟨a1, a2.si h1, a3, a4, a5, ⟨by rw [si_nj (Ne.symm h2)]; exact a6.1, by rw [si_nj (Ne.symm h3)]; exact a6.2.1, by rw [si_nj (Ne.symm h4)]; exact a6.2.2.1, fun z => by rw [si_nj (Ne.symm h5)]; exact a6.2.2.2 z⟩⟩
theorem PF.si {c : gS} {k j : Nat} {v : Int32} (h : 3 ≤ k) (h2 : k ≤ 13) : PF c (g_si c k j v) := ⟨Sm.si (by simp; omega), by rw [sir (by omega)]⟩
theorem SA.cow {c m : gS} {kd st en w h : Nat} (sa : SA c m T len kd st en) (L : Ld c 4 w h) (h22 : m.1 0 22 = nI w) (h23 : m.1 0 23 = nI h) (hn : 0 < w * h) :
    (∃ c' m' q x p' kd' st' en', SB c' m' T len p' kd' st' en' ∧ en < p' ∧ q < w * h ∧ 1 ≤ x ∧ x ≤ 8 ∧ Sm [1, 3, 4] c c' ∧ (∀ j, j ≠ 2 → j ≠ 3 → j ≠ 4 → c'.1 1 j = c.1 1 j) ∧ (∀ j, c'.1 3 j = if j = 7 then 1 else c.1 3 j) ∧ (∀ j, j ≠ 3 → j ≠ 4 → c'.1 4 j = c.1 4 j) ∧ c'.1 4 3 = nI q ∧ c'.1 4 4 = nI x ∧ (∀ r, r ≠ 0 → m'.1 r = m.1 r) ∧ (∀ j, j ≠ 18 → j ≠ 19 → j ≠ 20 → j ≠ 21 → j ≠ 38 → j ≠ 39 → j ≠ 35 → j ≠ 29 → j ≠ 30 → m'.1 0 j = m.1 0 j) ∧ m'.1 0 35 = 1 ∧ m'.1 0 29 = nI q ∧ m'.1 0 30 = nI x ∧ f_X5_readCow c = some (some (.int 1), c') ∧ mCow m = some (some (.int 1), m')) ∨
    (∃ c' m', PF c c' ∧ Mk m m' ∧ FL c' m' ∧ f_X5_readCow c = some (some (.int 0), c') ∧ mCow m = some (some (.int 0), m')) := by
  have hn40 := L.1.n
  obtain ⟨m0, kd0, st0, en0, g0, g0', sb⟩ := ((sa.ci (k := 3) (j := 7) (v := 1) (by decide) (by decide)).m0 (j := 35) (v := 1) (by decide) (by decide) (by decide) (by decide) (by decide)).go
  have o1 := sb.2.2.2.2.1.1.1
  unfold f_X5_readCow mCow
  rw [gl_s, gl_s, g0', gb_v]
  have L0 : Ld (g_si c 3 7 1) 4 w h := L.congr (fun k a b => sir (by omega))
  rcases sb.cell L0 (by rw [g0.2 22 (by decide) (by decide) (by decide) (by decide), si_nj (by decide)]; exact h22) (by rw [g0.2 23 (by decide) (by decide) (by decide) (by decide), si_nj (by decide)]; exact h23) hn with ⟨c1, m1, q, kd1, st1, en1, f1, g1, g2, q1, q2, s1, lt, e1, e2⟩ | ⟨c', m', p1, p2, p3, e1, e2⟩
  · have L1 : Ld c1 4 w h := L0.congr (fun k a b => (f1.1 k (by simp; omega)).1)
    rw [e1, gb_i, has_in L1 q1, gb_i, i10, e2, gl_s, q2]
    obtain ⟨m2, kd2, st2, en2, g3, g4, sb2⟩ := (s1.m0 (j := 29) (v := nI q) (by decide) (by decide) (by decide) (by decide) (by decide)).go
    have o2 := sb2.2.2.2.2.1.1.1
    rw [g4, gb_v, c32_1, show (8 : Int32) = nI 8 from rfl]
    rcases sb2.num (lo := 1) (hi := 8) (by omega) (by omega) with ⟨c3, m3, x, kd3, st3, en3, f3, g5, g6, x1, x2, g7, sb3, lt3, e3, e4⟩ | ⟨c', m', p1, p1', p2, p3, p4, e3, e4⟩
    · have o3 := sb3.2.2.2.2.1.1.1
      rw [e3, e4, gb_i, gb_i, c32_0, if_pos (nI_le (Nat.zero_le _) (by omega)), if_neg (show ¬ (1 : Int32) = nI 0 by decide), gl_s, gl_s, gl_s, g7]
      rcases ((((sb3.ci (k := 4) (j := 3) (v := nI q) (by decide) (by decide)).ci (k := 4) (j := 4) (v := nI x) (by decide) (by decide))).m0 (j := 30) (v := nI x) (by decide) (by decide) (by decide) (by decide) (by decide)).stop with ⟨c5, m5, kd5, st5, en5, f5, g8, sb5, lt5, e5, e6⟩ | ⟨c', m', p1, p1', p2, p3, p4, e5, e6⟩
      · rw [e5, e6, gb_i, gb_i]
        refine Or.inl ⟨c5, m5, q, x, en3, kd5, st5, en5, sb5, by omega, q1, x1, x2, ?_, ?_, ?_, ?_, ?_, ?_, ?_, ?_, ?_, ?_, ?_, rfl, rfl⟩
        · exact (((((Sm.si (by simp)).tr (f1.1.mono (fun k hk => by simp at hk ⊢; omega))).tr (f3.1.mono (fun k hk => by simp at hk ⊢; omega))).tr (Sm.si (by simp))).tr (Sm.si (by simp))).tr (f5.1.mono (fun k hk => by simp at hk ⊢; omega))
        · intro j a d z
          rw [f5.2 j a d z, sir (by decide), sir (by decide), f3.2 j a d z, f1.2 j a d z, sir (by decide)]
        · intro j
          rw [(f5.1 3 (by simp)).1, sir (by decide), sir (by decide), (f3.1 3 (by simp)).1, (f1.1 3 (by simp)).1, row_si]; rfl
        · intro j a d
          rw [(f5.1 4 (by simp)).1, si_nj d, si_nj a, (f3.1 4 (by simp)).1, (f1.1 4 (by simp)).1, sir (by decide)]
        · rw [(f5.1 4 (by simp)).1, si_nj (by decide), si_eq]
        · rw [(f5.1 4 (by simp)).1, si_eq]
        · intro r hr
          rw [g8.1 r hr, sir hr, g5 r hr, g3.1 r hr, sir hr, g1 r hr, g0.1 r hr, sir hr]
        · intro j a1 a2 a3 a4 a5 a6 a7 a8 a9
          rw [g8.2 j a1 a2 a3 a4, si_nj a9, g6 j a1 a2 a3 a4 a5, g3.2 j a1 a2 a3 a4, si_nj a8, g2 j a1 a2 a3 a4 a5 a6, g0.2 j a1 a2 a3 a4, si_nj a7]
        · rw [g8.2 35 (by decide) (by decide) (by decide) (by decide), si_nj (by decide), g6 35 (by decide) (by decide) (by decide) (by decide) (by decide), g3.2 35 (by decide) (by decide) (by decide) (by decide), si_nj (by decide), g2 35 (by decide) (by decide) (by decide) (by decide) (by decide) (by decide), g0.2 35 (by decide) (by decide) (by decide) (by decide), si_eq]; rfl
        · rw [g8.2 29 (by decide) (by decide) (by decide) (by decide), si_nj (by decide), g6 29 (by decide) (by decide) (by decide) (by decide) (by decide), g3.2 29 (by decide) (by decide) (by decide) (by decide), si_eq]
        · rw [g8.2 30 (by decide) (by decide) (by decide) (by decide), si_eq]
      · rw [e5, e6, gb_i, gb_i]
        refine Or.inr ⟨c', m', ?_, ?_, p4, rfl, rfl⟩
        · exact (((((PF.si (by decide) (by decide)).tr f1.pf).tr f3.pf).tr (PF.si (by decide) (by decide))).tr (PF.si (by decide) (by decide))).tr (PF.f3 p1 p1')
        · refine Mk.p0' (fun r a d => ?_) (fun j a => ?_)
          · rw [p2 r (by omega), sir (by omega), g5 r (by omega), g3.1 r (by omega), sir (by omega), g1 r (by omega), g0.1 r (by omega), sir (by omega)]
          · rw [p3 j (by omega), si_nj (by omega), g6 j (by omega) (by omega) (by omega) (by omega) (by omega), g3.2 j (by omega) (by omega) (by omega) (by omega), si_nj (by omega), g2 j (by omega) (by omega) (by omega) (by omega) (by omega) (by omega), g0.2 j (by omega) (by omega) (by omega) (by omega), si_nj (by omega)]
    · rw [e3, e4, gb_i, gb_i, c32_0, if_neg (neg_nle (by decide) (by omega)), if_pos rfl]
      refine Or.inr ⟨c', m', ?_, ?_, p4, rfl, rfl⟩
      · exact ((PF.si (by decide) (by decide)).tr f1.pf).tr (PF.f3 p1 p1')
      · refine Mk.p0' (fun r a d => ?_) (fun j a => ?_)
        · rw [p2 r (by omega), g3.1 r (by omega), sir (by omega), g1 r (by omega), g0.1 r (by omega), sir (by omega)]
        · rw [p3 j (by omega), g3.2 j (by omega) (by omega) (by omega) (by omega), si_nj (by omega), g2 j (by omega) (by omega) (by omega) (by omega) (by omega) (by omega), g0.2 j (by omega) (by omega) (by omega) (by omega), si_nj (by omega)]
  · refine Or.inr ⟨c', m', (PF.si (by decide) (by decide)).tr p1, (Mk.p0 (fun r hr => (g0.1 r hr).trans (sir hr)) (fun j hj => by rw [g0.2 j (by omega) (by omega) (by omega) (by omega), si_nj (by omega)])).tr p2, p3, ?_, ?_⟩
    · rw [e1, gb_i, has_no, gb_i, i00]
    · rw [e2]
end COW
