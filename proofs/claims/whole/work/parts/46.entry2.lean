/-! The entries of tithe, thing, cow and likes -/
section ENTRY2
variable {T : Nat → Int32} {len : Nat}
theorem E_tithe {c m : gS} {kd st en w h : Nat} (sa : SA c m T len kd st en) (D : DD c m w h) : Out c m T len en w h (g_let (g_si c 3 5 ((c.1 3 5) + (1 : Int32))) (fun s35 => (if (s35.1 3 5) ≤ (20 : Int32) then (g_bind (f_X5_readValue 13 9 (99 : Int32) s35) (g_ki (fun r37 s36 => (g_01 r37 (some (some (.int r37), s36)))))) else (g_bind (f_X5_fail (3 : Int32) s35) (g_ki (fun r39 s38 => (g_01 r39 (some (some (.int r39), s38))))))))) (f_X10_readsTithe m) := by
  obtain ⟨hr, wq, ng, nt, nk, l, th, gr, ti, L, D1, D2, D3, D4, D5, D6, D7, D8, D9, D10, D11, D12, D13, D14, D15⟩ := D
  have hn40 := L.1.n
  unfold f_X10_readsTithe
  rw [gl_s, si_eq, D11.1, D11.2.1, nI_1]
  by_cases e : nt = 20
  · rw [if_neg (show ¬ nI (nt + 1) ≤ 20 from fun z => by have := (nI_leI (b := 20) (by omega) (by omega)).mp z; omega), if_pos (show nI nt = 20 by rw [e]; rfl)]
    exact (sa.ci (k := 3) (by decide) (by decide)).fl (PF.si (by decide) (by decide))
  · rw [if_pos (show nI (nt + 1) ≤ 20 from nI_le (b := 20) (by omega) (by omega)), if_neg (show ¬ nI nt = 20 from fun z => e ((nI_eq (b := 20) (by omega) (by omega)).mp z)), gl_s]
    obtain ⟨m0, kd0, st0, en0, g0, g0', sb⟩ := ((sa.ci (k := 3) (j := 5) (v := nI (nt + 1)) (by decide) (by decide)).m0 (j := 34) (v := nI (nt + 1)) (by decide) (by decide) (by decide) (by decide) (by decide)).go
    have g0r : ∀ r, r ≠ 0 → m0.1 r = m.1 r := fun r hr => (g0.1 r hr).trans (sir hr)
    have g0z : ∀ j, j ≠ 18 → j ≠ 19 → j ≠ 20 → j ≠ 21 → j ≠ 34 → m0.1 0 j = m.1 0 j := fun j a b d e f => by rw [g0.2 j a b d e, si_nj f]
    have MK0 : Mk m m0 := Mk.p0 g0r (fun j hj => g0z j (by omega) (by omega) (by omega) (by omega) (by omega))
    rw [g0', gb_v]
    rcases sb.value (b := 13) (e := 9) (fb := 16) (fe := 13) (hi := 99) (Or.inr ⟨rfl, rfl, rfl, rfl⟩) (L.congr (fun k a b => sir (by omega))) (by rw [g0z 22 (by decide) (by decide) (by decide) (by decide) (by decide)]; exact D1.1) (by rw [g0z 23 (by decide) (by decide) (by decide) (by decide) (by decide)]; exact D1.2) D15 (fun q hq => by rw [sir (by decide), g0r 16 (by decide)]; exact D9 q hq) (by omega) with ⟨c', m', q, x, p', kd', st', en', s1, lt, q1, x1, S, S1, R1, R2', G, G0, G1', G2, e1, e2⟩ | ⟨c', m', p1, p2, p3, e1, e2⟩
    · refine Or.inl ⟨c', m', p', kd', st', en', s1, lt, ?_, ?_, ?_, ?_, ?_⟩
      · exact (PF.si (by decide) (by decide)).tr ⟨S.mono (fun k hk => by simp at hk ⊢; omega), S1 1 (by decide) (by decide) (by decide)⟩
      · exact MK0.tr (Mk.p0' (fun r a b => G r (by omega) (by omega) (by omega)) (fun j a => G0 j (by omega) (by omega) (by omega) (by omega) (by omega) (by omega)))
      · have rc : ∀ k, k ≠ 1 → k ≠ 3 → k ≠ 9 → k ≠ 13 → c'.1 k = c.1 k := fun k a b d e => by rw [(S k (by simp; omega)).1, sir b]
        have r3 : ∀ j, j ≠ 5 → c'.1 3 j = c.1 3 j := fun j a => by rw [(S 3 (by simp)).1, si_nj a]
        have rm : ∀ r, r ≠ 0 → r ≠ 13 → r ≠ 16 → m'.1 r = m.1 r := fun r a b d => by rw [G r a d b, g0r r a]
        have z0 : ∀ j, j ≠ 18 → j ≠ 19 → j ≠ 20 → j ≠ 21 → j ≠ 34 → j ≠ 38 → j ≠ 39 → m'.1 0 j = m.1 0 j := fun j a b d e f g i => by rw [G0 j a b d e g i, g0z j a b d e f]
        refine ⟨hr, wq, ng, nt + 1, nk, l, th, gr, updN ti q x, L.cg (fun j _ => by rw [rc 4 (by decide) (by decide) (by decide) (by decide)]) (rc 5 (by decide) (by decide) (by decide) (by decide)) (rc 6 (by decide) (by decide) (by decide) (by decide)) (rc 10 (by decide) (by decide) (by decide) (by decide)) (rc 11 (by decide) (by decide) (by decide) (by decide)), ?_, ?_, ?_, ?_, ?_, ?_, fun j hj => ?_, ?_, fun j hj => ?_, ?_, ?_, ?_, ?_, ?_, D15⟩
        · rw [z0 22 (by decide) (by decide) (by decide) (by decide) (by decide) (by decide) (by decide), z0 23 (by decide) (by decide) (by decide) (by decide) (by decide) (by decide) (by decide)]; exact D1
        · rw [rc 4 (by decide) (by decide) (by decide) (by decide), z0 30 (by decide) (by decide) (by decide) (by decide) (by decide) (by decide) (by decide)]; exact D2
        · rw [rc 4 (by decide) (by decide) (by decide) (by decide), z0 29 (by decide) (by decide) (by decide) (by decide) (by decide) (by decide) (by decide)]; exact D3
        · rw [rc 4 (by decide) (by decide) (by decide) (by decide), rm 17 (by decide) (by decide) (by decide)]; exact D4
        · rw [rc 8 (by decide) (by decide) (by decide) (by decide), rm 14 (by decide) (by decide) (by decide)]; exact D5
        · rw [rc 7 (by decide) (by decide) (by decide) (by decide), rm 12 (by decide) (by decide) (by decide)]; exact D6
        · rw [R2' j, G2 j]
          by_cases ej : j = q
          · rw [if_pos ej, if_pos ej, ej, updN_eq]; exact ⟨rfl, rfl, x1⟩
          · rw [if_neg ej, if_neg ej, updN_ne ej, sir (by decide), g0r 13 (by decide)]; exact D7 j hj
        · rw [rc 12 (by decide) (by decide) (by decide) (by decide), rm 15 (by decide) (by decide) (by decide)]; exact D8
        · rw [R1 j, G1' j]
          by_cases ej : j = q
          · rw [if_pos ej, if_pos ej]
          · rw [if_neg ej, if_neg ej, sir (by decide), g0r 16 (by decide)]; exact D9 j hj
        · rw [r3 4 (by decide), z0 32 (by decide) (by decide) (by decide) (by decide) (by decide) (by decide) (by decide)]; exact D10
        · refine ⟨by rw [(S 3 (by simp)).1, si_eq], ?_, by omega⟩
          rw [G0 34 (by decide) (by decide) (by decide) (by decide) (by decide) (by decide), g0.2 34 (by decide) (by decide) (by decide) (by decide), si_eq]
        · rw [r3 6 (by decide), z0 33 (by decide) (by decide) (by decide) (by decide) (by decide) (by decide) (by decide)]; exact D12
        · rw [r3 7 (by decide), r3 8 (by decide), z0 35 (by decide) (by decide) (by decide) (by decide) (by decide) (by decide) (by decide), z0 36 (by decide) (by decide) (by decide) (by decide) (by decide) (by decide) (by decide)]; exact D13
        · rw [r3 9 (by decide), r3 10 (by decide), z0 37 (by decide) (by decide) (by decide) (by decide) (by decide) (by decide) (by decide)]; exact D14
      · rw [show (99 : Int32) = nI 99 from rfl, e1, gb_i]; rfl
      · exact e2
    · refine Or.inr ⟨c', m', (PF.si (by decide) (by decide)).tr p1, MK0.tr p2, p3, ?_, ?_⟩
      · rw [show (99 : Int32) = nI 99 from rfl, e1, gb_i]; rfl
      · exact e2
end ENTRY2
