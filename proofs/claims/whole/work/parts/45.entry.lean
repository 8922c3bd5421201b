/-! The draft, entry by entry -/
theorem Ld.cg {s s' : gS} {a w h : Nat} (L : Ld s a w h) (h0 : ∀ j, j < 3 → s'.1 a j = s.1 a j) (h1 : s'.1 (a + 1) = s.1 (a + 1)) (h2 : s'.1 (a + 2) = s.1 (a + 2)) (h6 : s'.1 (a + 6) = s.1 (a + 6)) (h7 : s'.1 (a + 7) = s.1 (a + 7)) : Ld s' a w h := by
  obtain ⟨d, e1, e2, e3, e4⟩ := L
  refine ⟨d, by rw [h0 0 (by omega)]; exact e1, by rw [h0 1 (by omega)]; exact e2, by rw [h0 2 (by omega)]; exact e3, ?_⟩
  rw [h1, h2, h6, h7]; exact e4
def DD (c m : gS) (w h : Nat) : Prop := ∃ (hr wq ng nt nk : Nat) (l th gr ti : Nat → Nat), Ld c 4 w h ∧ (m.1 0 22 = nI w ∧ m.1 0 23 = nI h) ∧ (c.1 4 4 = nI hr ∧ m.1 0 30 = nI hr ∧ 1 ≤ hr ∧ hr ≤ 8) ∧ (c.1 4 3 = nI wq ∧ m.1 0 29 = nI wq ∧ wq < w * h) ∧ (∀ i, i < 4 → c.1 4 (5 + i) = nI (l i) ∧ m.1 17 i = nI (l i) ∧ l i ≤ 9) ∧ (∀ q, q < w * h → c.1 8 q = nI (th q) ∧ m.1 14 q = nI (th q) ∧ th q < 8) ∧ (∀ q, q < w * h → c.1 7 q = nI (gr q) ∧ m.1 12 q = nI (gr q) ∧ gr q ≤ 9) ∧ (∀ q, q < w * h → c.1 9 q = nI (ti q) ∧ m.1 13 q = nI (ti q) ∧ ti q ≤ 99) ∧ (∀ q, q < w * h → c.1 12 q = m.1 15 q) ∧ (∀ q, q < w * h → c.1 13 q = m.1 16 q) ∧ (c.1 3 4 = nI ng ∧ m.1 0 32 = nI ng ∧ ng ≤ 20) ∧ (c.1 3 5 = nI nt ∧ m.1 0 34 = nI nt ∧ nt ≤ 20) ∧ (c.1 3 6 = nI nk ∧ m.1 0 33 = nI nk ∧ nk ≤ 15) ∧ (c.1 3 7 = m.1 0 35 ∧ c.1 3 8 = m.1 0 36) ∧ (c.1 3 9 = 0 ∧ m.1 0 37 = 0 ∧ c.1 3 10 = -1) ∧ 0 < w * h
def Out (c m : gS) (T : Nat → Int32) (len en w h : Nat) (oc om : gR) : Prop := (∃ c' m' p' kd' st' en', SB c' m' T len p' kd' st' en' ∧ en < p' ∧ PF c c' ∧ Mk m m' ∧ DD c' m' w h ∧ oc = some (some (.int 1), c') ∧ om = some (some (.int 1), m')) ∨ (∃ c' m', PF c c' ∧ Mk m m' ∧ FL c' m' ∧ oc = some (some (.int 0), c') ∧ om = some (some (.int 0), m'))
section ENTRY
variable {T : Nat → Int32} {len : Nat}
theorem SA.fl {c m c0 : gS} {kd st en w h : Nat} (s : SA c m T len kd st en) (p : PF c0 c) : Out c0 m T len en w h (g_bind (f_X5_fail (3 : Int32) c) (g_ki (fun r s => (g_01 r (some (some (.int r), s)))))) (g_bind (f_X10_faults (3 : Int32) m) (g_ki (fun r s => (g_01 r (some (some (.int r), s)))))) := by
  obtain ⟨c', m', p1, p2, p3, p4, p5, p6⟩ := s.fail 3 (by omega) (by omega)
  rw [show (3 : Int32) = nI 3 from rfl, p5, p6, gb_i, gb_i]
  exact Or.inr ⟨c', m', p.tr (PF.f3 (p1.mono (fun k hk => by simp at hk ⊢; omega)) (fun j _ _ _ => by rw [(p1 1 (by simp)).1])), Mk.p0 p2 (fun j hj => p3 j (by omega)), p4, rfl, rfl⟩
theorem E_grass {c m : gS} {kd st en w h : Nat} (sa : SA c m T len kd st en) (D : DD c m w h) : Out c m T len en w h (g_let (g_si c 3 4 ((c.1 3 4) + (1 : Int32))) (fun s35 => (if (s35.1 3 4) ≤ (20 : Int32) then (g_bind (f_X5_readValue 12 7 (9 : Int32) s35) (g_ki (fun r37 s36 => (g_01 r37 (some (some (.int r37), s36)))))) else (g_bind (f_X5_fail (3 : Int32) s35) (g_ki (fun r39 s38 => (g_01 r39 (some (some (.int r39), s38))))))))) (f_X10_readsGrass m) := by
  obtain ⟨hr, wq, ng, nt, nk, l, th, gr, ti, L, D1, D2, D3, D4, D5, D6, D7, D8, D9, D10, D11, D12, D13, D14, D15⟩ := D
  have hn40 := L.1.n
  unfold f_X10_readsGrass
  rw [gl_s, si_eq, D10.1, D10.2.1, nI_1]
  by_cases e : ng = 20
  · rw [if_neg (show ¬ nI (ng + 1) ≤ 20 from fun z => by have := (nI_leI (b := 20) (by omega) (by omega)).mp z; omega), if_pos (show nI ng = 20 by rw [e]; rfl)]
    exact (sa.ci (k := 3) (by decide) (by decide)).fl (PF.si (by decide) (by decide))
  · rw [if_pos (show nI (ng + 1) ≤ 20 from nI_le (b := 20) (by omega) (by omega)), if_neg (show ¬ nI ng = 20 from fun z => e ((nI_eq (b := 20) (by omega) (by omega)).mp z)), gl_s]
    obtain ⟨m0, kd0, st0, en0, g0, g0', sb⟩ := ((sa.ci (k := 3) (j := 4) (v := nI (ng + 1)) (by decide) (by decide)).m0 (j := 32) (v := nI (ng + 1)) (by decide) (by decide) (by decide) (by decide) (by decide)).go
    have g0r : ∀ r, r ≠ 0 → m0.1 r = m.1 r := fun r hr => (g0.1 r hr).trans (sir hr)
    have g0z : ∀ j, j ≠ 18 → j ≠ 19 → j ≠ 20 → j ≠ 21 → j ≠ 32 → m0.1 0 j = m.1 0 j := fun j a b d e f => by rw [g0.2 j a b d e, si_nj f]
    have MK0 : Mk m m0 := Mk.p0 g0r (fun j hj => g0z j (by omega) (by omega) (by omega) (by omega) (by omega))
    rw [g0', gb_v]
    rcases sb.value (b := 12) (e := 7) (fb := 15) (fe := 12) (hi := 9) (Or.inl ⟨rfl, rfl, rfl, rfl⟩) (L.congr (fun k a b => sir (by omega))) (by rw [g0z 22 (by decide) (by decide) (by decide) (by decide) (by decide)]; exact D1.1) (by rw [g0z 23 (by decide) (by decide) (by decide) (by decide) (by decide)]; exact D1.2) D15 (fun q hq => by rw [sir (by decide), g0r 15 (by decide)]; exact D8 q hq) (by omega) with ⟨c', m', q, x, p', kd', st', en', s1, lt, q1, x1, S, S1, R1, R2', G, G0, G1', G2, e1, e2⟩ | ⟨c', m', p1, p2, p3, e1, e2⟩
    · refine Or.inl ⟨c', m', p', kd', st', en', s1, lt, ?_, ?_, ?_, ?_, ?_⟩
      · exact (PF.si (by decide) (by decide)).tr ⟨S.mono (fun k hk => by simp at hk ⊢; omega), S1 1 (by decide) (by decide) (by decide)⟩
      · exact MK0.tr (Mk.p0' (fun r a b => G r (by omega) (by omega) (by omega)) (fun j a => G0 j (by omega) (by omega) (by omega) (by omega) (by omega) (by omega)))
      · have rc : ∀ k, k ≠ 1 → k ≠ 3 → k ≠ 7 → k ≠ 12 → c'.1 k = c.1 k := fun k a b d e => by rw [(S k (by simp; omega)).1, sir b]
        have r3 : ∀ j, j ≠ 4 → c'.1 3 j = c.1 3 j := fun j a => by rw [(S 3 (by simp)).1, si_nj a]
        have rm : ∀ r, r ≠ 0 → r ≠ 12 → r ≠ 15 → m'.1 r = m.1 r := fun r a b d => by rw [G r a d b, g0r r a]
        have z0 : ∀ j, j ≠ 18 → j ≠ 19 → j ≠ 20 → j ≠ 21 → j ≠ 32 → j ≠ 38 → j ≠ 39 → m'.1 0 j = m.1 0 j := fun j a b d e f g i => by rw [G0 j a b d e g i, g0z j a b d e f]
        refine ⟨hr, wq, ng + 1, nt, nk, l, th, updN gr q x, ti, L.cg (fun j _ => by rw [rc 4 (by decide) (by decide) (by decide) (by decide)]) (rc 5 (by decide) (by decide) (by decide) (by decide)) (rc 6 (by decide) (by decide) (by decide) (by decide)) (rc 10 (by decide) (by decide) (by decide) (by decide)) (rc 11 (by decide) (by decide) (by decide) (by decide)), ?_, ?_, ?_, ?_, ?_, fun j hj => ?_, ?_, fun j hj => ?_, ?_, ?_, ?_, ?_, ?_, ?_, D15⟩
        · rw [z0 22 (by decide) (by decide) (by decide) (by decide) (by decide) (by decide) (by decide), z0 23 (by decide) (by decide) (by decide) (by decide) (by decide) (by decide) (by decide)]; exact D1
        · rw [rc 4 (by decide) (by decide) (by decide) (by decide), z0 30 (by decide) (by decide) (by decide) (by decide) (by decide) (by decide) (by decide)]; exact D2
        · rw [rc 4 (by decide) (by decide) (by decide) (by decide), z0 29 (by decide) (by decide) (by decide) (by decide) (by decide) (by decide) (by decide)]; exact D3
        · rw [rc 4 (by decide) (by decide) (by decide) (by decide), rm 17 (by decide) (by decide) (by decide)]; exact D4
        · rw [rc 8 (by decide) (by decide) (by decide) (by decide), rm 14 (by decide) (by decide) (by decide)]; exact D5
        · rw [R2' j, G2 j]
          by_cases ej : j = q
          · rw [if_pos ej, if_pos ej, ej, updN_eq]; exact ⟨rfl, rfl, x1⟩
          · rw [if_neg ej, if_neg ej, updN_ne ej, sir (by decide), g0r 12 (by decide)]; exact D6 j hj
        · rw [rc 9 (by decide) (by decide) (by decide) (by decide), rm 13 (by decide) (by decide) (by decide)]; exact D7
        · rw [R1 j, G1' j]
          by_cases ej : j = q
          · rw [if_pos ej, if_pos ej]
          · rw [if_neg ej, if_neg ej, sir (by decide), g0r 15 (by decide)]; exact D8 j hj
        · rw [rc 13 (by decide) (by decide) (by decide) (by decide), rm 16 (by decide) (by decide) (by decide)]; exact D9
        · refine ⟨by rw [(S 3 (by simp)).1, si_eq], ?_, by omega⟩
          rw [G0 32 (by decide) (by decide) (by decide) (by decide) (by decide) (by decide), g0.2 32 (by decide) (by decide) (by decide) (by decide), si_eq]
        · rw [r3 5 (by decide), z0 34 (by decide) (by decide) (by decide) (by decide) (by decide) (by decide) (by decide)]; exact D11
        · rw [r3 6 (by decide), z0 33 (by decide) (by decide) (by decide) (by decide) (by decide) (by decide) (by decide)]; exact D12
        · rw [r3 7 (by decide), r3 8 (by decide), z0 35 (by decide) (by decide) (by decide) (by decide) (by decide) (by decide) (by decide), z0 36 (by decide) (by decide) (by decide) (by decide) (by decide) (by decide) (by decide)]; exact D13
        · rw [r3 9 (by decide), r3 10 (by decide), z0 37 (by decide) (by decide) (by decide) (by decide) (by decide) (by decide) (by decide)]; exact D14
      · rw [show (9 : Int32) = nI 9 from rfl, e1, gb_i]; rfl
      · exact e2
    · refine Or.inr ⟨c', m', (PF.si (by decide) (by decide)).tr p1, MK0.tr p2, p3, ?_, ?_⟩
      · rw [show (9 : Int32) = nI 9 from rfl, e1, gb_i]; rfl
      · exact e2
end ENTRY
