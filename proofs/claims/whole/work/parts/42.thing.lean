/-! An entry that gives a cell a thing -/
def mT (v : Int32) (s : gS) : gR := (g_bind (f_X10_goOn s) (g_kv (fun s48 => (g_bind (f_X10_takesX s48) (g_ki (fun r50 s49 => (if r50 = 0 then (some (some (.int (0 : Int32)), s49)) else (g_bind (f_X10_seesY (s49.1 0 38) s49) (g_ki (fun r52 s51 => (if r52 = 0 then (some (some (.int (0 : Int32)), s51)) else (g_ix (s51.1 0 39) 40 (if (((s51.1 14 (s51.1 0 39).toNatClampNeg) >>> (v &&& 31)) &&& (1 : Int32)) = (1 : Int32) then (g_bind (f_X10_faults (4 : Int32) s51) (g_ki (fun r58 s57 => (g_01 r58 (some (some (.int r58), s57)))))) else (g_ix (s51.1 0 39) 40 (g_ix (s51.1 0 39) 40 (g_let (g_si s51 14 (s51.1 0 39).toNatClampNeg ((s51.1 14 (s51.1 0 39).toNatClampNeg) ||| ((1 : Int32) <<< (v &&& 31)))) (fun s53 => (g_bind (f_X10_goOn s53) (g_kv (fun s54 => (g_bind (f_X10_stops s54) (g_ki (fun r56 s55 => (g_01 r56 (some (some (.int r56), s55))))))))))))))))))))))))))
def cT (v : Int32) (s : gS) : gR := (g_bind (f_X5_readCell s) (g_ki (fun r5 s4 => (g_bind (f_X3_has 4 r5 s4) (g_ki (fun r7 s6 => (if r7 = 0 then (some (some (.int (0 : Int32)), s6)) else (g_ix r5 40 (if ((s6.1 8 r5.toNatClampNeg) &&& v) = 0 then (g_ix r5 40 (g_ix r5 40 (g_let (g_si s6 8 r5.toNatClampNeg ((s6.1 8 r5.toNatClampNeg) ||| v)) (fun s8 => (g_bind (f_X5_readStop s8) (g_ki (fun r10 s9 => (g_01 r10 (some (some (.int r10), s9)))))))))) else (g_bind (f_X5_fail (4 : Int32) s6) (g_ki (fun r12 s11 => (g_01 r12 (some (some (.int r12), s11)))))))))))))))
theorem bitsT : ∀ t, t < 8 → ∀ v, v < 3 → ((nI t &&& nI (2 ^ v) = 0) = ¬ ((nI t >>> (nI v &&& 31)) &&& 1 = 1)) ∧ nI t ||| nI (2 ^ v) = nI (t ||| 2 ^ v) ∧ nI t ||| ((1 : Int32) <<< (nI v &&& 31)) = nI (t ||| 2 ^ v) ∧ t ||| 2 ^ v < 8 := by decide +kernel
section THING
variable {T : Nat → Int32} {len : Nat}
theorem SA.thing_t {c m : gS} {kd st en w h v : Nat} {th : Nat → Nat} (hv : v < 3) (sa : SA c m T len kd st en) (L : Ld c 4 w h) (h22 : m.1 0 22 = nI w) (h23 : m.1 0 23 = nI h) (hn : 0 < w * h) (hth : ∀ q, q < w * h → c.1 8 q = nI (th q) ∧ m.1 14 q = nI (th q) ∧ th q < 8) :
    (∃ c' m' q p' kd' st' en', SB c' m' T len p' kd' st' en' ∧ en < p' ∧ q < w * h ∧ Sm [1, 8] c c' ∧ (∀ j, j ≠ 2 → j ≠ 3 → j ≠ 4 → c'.1 1 j = c.1 1 j) ∧ (∀ j, c'.1 8 j = if j = q then nI (th q ||| 2 ^ v) else c.1 8 j) ∧ (∀ r, r ≠ 0 → r ≠ 14 → m'.1 r = m.1 r) ∧ (∀ j, j ≠ 18 → j ≠ 19 → j ≠ 20 → j ≠ 21 → j ≠ 38 → j ≠ 39 → m'.1 0 j = m.1 0 j) ∧ (∀ j, m'.1 14 j = if j = q then nI (th q ||| 2 ^ v) else m.1 14 j) ∧ cT (nI (2 ^ v)) c = some (some (.int 1), c') ∧ mT (nI v) m = some (some (.int 1), m')) ∨
    (∃ c' m', PF c c' ∧ Mk m m' ∧ FL c' m' ∧ cT (nI (2 ^ v)) c = some (some (.int 0), c') ∧ mT (nI v) m = some (some (.int 0), m')) := by
  have hn40 := L.1.n
  obtain ⟨m0, kd0, st0, en0, g0, g0', sb⟩ := sa.go
  have o1 := sb.2.2.2.2.1.1.1
  unfold cT mT
  rw [g0', gb_v]
  have g0r : ∀ r, r ≠ 0 → m0.1 r = m.1 r := g0.1
  rcases sb.cell L (by rw [g0.2 22 (by decide) (by decide) (by decide) (by decide)]; exact h22) (by rw [g0.2 23 (by decide) (by decide) (by decide) (by decide)]; exact h23) hn with ⟨c1, m1, q, kd1, st1, en1, f1, g1, g2, q1, q2, s1, lt, e1, e2⟩ | ⟨c', m', p1, p2, p3, e1, e2⟩
  · obtain ⟨t1, t2, t3⟩ := hth q q1
    obtain ⟨w1, w2, w3, w4⟩ := bitsT (th q) t3 v hv
    have L1 : Ld c1 4 w h := L.congr (fun k a b => (f1.1 k (by simp; omega)).1)
    have x8 : c1.1 8 q = nI (th q) := by rw [(f1.1 8 (by simp)).1]; exact t1
    have x14 : m1.1 14 q = nI (th q) := by rw [g1 14 (by decide), g0r 14 (by decide)]; exact t2
    rw [e1, gb_i, has_in L1 q1, gb_i, i10, g_ixn (by omega) (by omega), nI_clamp (by omega), x8, e2, q2, nI_clamp (by omega), x14, w2, w3]
    by_cases ez : (nI (th q) >>> (nI v &&& 31)) &&& 1 = 1
    · rw [if_neg (by rw [w1]; exact fun z => z ez), if_pos ez, g_ixn (by omega) (by omega)]
      obtain ⟨c', m', p1, p2, p3, p4, p5, p6⟩ := s1.fail 4 (by omega) (by omega)
      rw [show (4 : Int32) = nI 4 from rfl, p5, p6, gb_i, gb_i]
      exact Or.inr ⟨c', m', f1.pf.tr (PF.f3 (p1.mono (fun k hk => by simp at hk ⊢; omega)) (fun j _ _ _ => by rw [(p1 1 (by simp)).1])), Mk.p0 (fun r hr => (p2 r hr).trans ((g1 r hr).trans (g0r r hr))) (fun j hj => (p3 j (by omega)).trans ((g2 j (by omega) (by omega) (by omega) (by omega) (by omega) (by omega)).trans (g0.2 j (by omega) (by omega) (by omega) (by omega)))), p4, rfl, rfl⟩
    · rw [if_pos (by rw [w1]; exact ez), if_neg ez, g_ixn (by omega) (by omega), g_ixn (by omega) (by omega), g_ixn (by omega) (by omega), g_ixn (by omega) (by omega), g_ixn (by omega) (by omega), gl_s, gl_s]
      obtain ⟨m2, kd2, st2, en2, g3, g4, sb2⟩ := ((s1.ci (k := 8) (j := q) (v := nI (th q ||| 2 ^ v)) (by decide) (by decide)).mi (k := 14) (j := q) (v := nI (th q ||| 2 ^ v)) (by decide) (by decide)).go
      rw [g4, gb_v]
      rcases sb2.stop with ⟨c5, m5, kd5, st5, en5, f5, g8, sb5, lt5, e5, e6⟩ | ⟨c', m', p1, p1', p2, p3, p4, e5, e6⟩
      · have o2 := sb2.2.2.2.2.1.1.1
        rw [e5, e6, gb_i, gb_i]
        refine Or.inl ⟨c5, m5, q, en2, kd5, st5, en5, sb5, by omega, q1, ?_, ?_, ?_, ?_, ?_, ?_, rfl, rfl⟩
        · exact ((f1.1.mono (fun k hk => by simp at hk ⊢; omega)).tr (Sm.si (by simp))).tr (f5.1.mono (fun k hk => by simp at hk ⊢; omega))
        · intro j a d z
          rw [f5.2 j a d z, sir (by decide), f1.2 j a d z]
        · intro j
          rw [(f5.1 8 (by simp)).1, row_si, (f1.1 8 (by simp)).1]
        · intro r x y
          rw [g8.1 r x, g3.1 r x, sir y, g1 r x, g0r r x]
        · intro j x y z u v a
          rw [g8.2 j x y z u, g3.2 j x y z u, sir (by decide), g2 j x y z u v a, g0.2 j x y z u]
        · intro j
          rw [g8.1 14 (by decide), g3.1 14 (by decide), row_si, g1 14 (by decide), g0r 14 (by decide)]
      · rw [e5, e6, gb_i, gb_i]
        refine Or.inr ⟨c', m', ?_, ?_, p4, rfl, rfl⟩
        · exact (f1.pf.tr ⟨Sm.si (by simp), by rw [sir (by decide)]⟩).tr (PF.f3 p1 p1')
        · refine Mk.p0' (fun r a d => ?_) (fun j a => ?_)
          · rw [p2 r (by omega), g3.1 r (by omega), sir (by omega), g1 r (by omega), g0r r (by omega)]
          · rw [p3 j (by omega), g3.2 j (by omega) (by omega) (by omega) (by omega), sir (by decide), g2 j (by omega) (by omega) (by omega) (by omega) (by omega) (by omega), g0.2 j (by omega) (by omega) (by omega) (by omega)]
  · refine Or.inr ⟨c', m', p1, (Mk.p0 g0r (fun j hj => g0.2 j (by omega) (by omega) (by omega) (by omega))).tr p2, p3, ?_, ?_⟩
    · rw [e1, gb_i, has_no, gb_i, i00]
    · rw [e2]
end THING
