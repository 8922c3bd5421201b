/-! The entry of a thing -/
def mW (s2 : gS) : gR := (g_bind (f_X10_isWord (115 : Int32) (104 : Int32) (97 : Int32) (100 : Int32) (101 : Int32) (0 : Int32) s2) (g_ki (fun r4 s3 => (if r4 = 0 then (g_bind (f_X10_isWord (119 : Int32) (97 : Int32) (116 : Int32) (101 : Int32) (114 : Int32) (0 : Int32) s3) (g_ki (fun r6 s5 => (if r6 = 0 then (g_bind (f_X10_isWord (102 : Int32) (108 : Int32) (105 : Int32) (101 : Int32) (115 : Int32) (0 : Int32) s5) (g_ki (fun r8 s7 => (if r8 = 0 then (if (-1 : Int32) = (-1 : Int32) then (g_bind (f_X10_faults (1 : Int32) s7) (g_ki (fun r21 s20 => (g_01 r21 (some (some (.int r21), s20)))))) else (g_bind (f_X10_goOn s7) (g_kv (fun s9 => (g_bind (f_X10_takesX s9) (g_ki (fun r11 s10 => (if r11 = 0 then (some (some (.int (0 : Int32)), s10)) else (g_bind (f_X10_seesY (s10.1 0 38) s10) (g_ki (fun r13 s12 => (if r13 = 0 then (some (some (.int (0 : Int32)), s12)) else (g_ix (s12.1 0 39) 40 (if (((s12.1 14 (s12.1 0 39).toNatClampNeg) >>> ((-1 : Int32) &&& 31)) &&& (1 : Int32)) = (1 : Int32) then (g_bind (f_X10_faults (4 : Int32) s12) (g_ki (fun r19 s18 => (g_01 r19 (some (some (.int r19), s18)))))) else (g_ix (s12.1 0 39) 40 (g_ix (s12.1 0 39) 40 (g_let (g_si s12 14 (s12.1 0 39).toNatClampNeg ((s12.1 14 (s12.1 0 39).toNatClampNeg) ||| ((1 : Int32) <<< ((-1 : Int32) &&& 31)))) (fun s14 => (g_bind (f_X10_goOn s14) (g_kv (fun s15 => (g_bind (f_X10_stops s15) (g_ki (fun r17 s16 => (g_01 r17 (some (some (.int r17), s16))))))))))))))))))))))))))) else (if (2 : Int32) = (-1 : Int32) then (g_bind (f_X10_faults (1 : Int32) s7) (g_ki (fun r34 s33 => (g_01 r34 (some (some (.int r34), s33)))))) else (g_bind (f_X10_goOn s7) (g_kv (fun s22 => (g_bind (f_X10_takesX s22) (g_ki (fun r24 s23 => (if r24 = 0 then (some (some (.int (0 : Int32)), s23)) else (g_bind (f_X10_seesY (s23.1 0 38) s23) (g_ki (fun r26 s25 => (if r26 = 0 then (some (some (.int (0 : Int32)), s25)) else (g_ix (s25.1 0 39) 40 (if (((s25.1 14 (s25.1 0 39).toNatClampNeg) >>> ((2 : Int32) &&& 31)) &&& (1 : Int32)) = (1 : Int32) then (g_bind (f_X10_faults (4 : Int32) s25) (g_ki (fun r32 s31 => (g_01 r32 (some (some (.int r32), s31)))))) else (g_ix (s25.1 0 39) 40 (g_ix (s25.1 0 39) 40 (g_let (g_si s25 14 (s25.1 0 39).toNatClampNeg ((s25.1 14 (s25.1 0 39).toNatClampNeg) ||| ((1 : Int32) <<< ((2 : Int32) &&& 31)))) (fun s27 => (g_bind (f_X10_goOn s27) (g_kv (fun s28 => (g_bind (f_X10_stops s28) (g_ki (fun r30 s29 => (g_01 r30 (some (some (.int r30), s29))))))))))))))))))))))))))))))) else (if (1 : Int32) = (-1 : Int32) then (g_bind (f_X10_faults (1 : Int32) s5) (g_ki (fun r47 s46 => (g_01 r47 (some (some (.int r47), s46)))))) else (g_bind (f_X10_goOn s5) (g_kv (fun s35 => (g_bind (f_X10_takesX s35) (g_ki (fun r37 s36 => (if r37 = 0 then (some (some (.int (0 : Int32)), s36)) else (g_bind (f_X10_seesY (s36.1 0 38) s36) (g_ki (fun r39 s38 => (if r39 = 0 then (some (some (.int (0 : Int32)), s38)) else (g_ix (s38.1 0 39) 40 (if (((s38.1 14 (s38.1 0 39).toNatClampNeg) >>> ((1 : Int32) &&& 31)) &&& (1 : Int32)) = (1 : Int32) then (g_bind (f_X10_faults (4 : Int32) s38) (g_ki (fun r45 s44 => (g_01 r45 (some (some (.int r45), s44)))))) else (g_ix (s38.1 0 39) 40 (g_ix (s38.1 0 39) 40 (g_let (g_si s38 14 (s38.1 0 39).toNatClampNeg ((s38.1 14 (s38.1 0 39).toNatClampNeg) ||| ((1 : Int32) <<< ((1 : Int32) &&& 31)))) (fun s40 => (g_bind (f_X10_goOn s40) (g_kv (fun s41 => (g_bind (f_X10_stops s41) (g_ki (fun r43 s42 => (g_01 r43 (some (some (.int r43), s42))))))))))))))))))))))))))))))) else (if (0 : Int32) = (-1 : Int32) then (g_bind (f_X10_faults (1 : Int32) s3) (g_ki (fun r60 s59 => (g_01 r60 (some (some (.int r60), s59)))))) else (g_bind (f_X10_goOn s3) (g_kv (fun s48 => (g_bind (f_X10_takesX s48) (g_ki (fun r50 s49 => (if r50 = 0 then (some (some (.int (0 : Int32)), s49)) else (g_bind (f_X10_seesY (s49.1 0 38) s49) (g_ki (fun r52 s51 => (if r52 = 0 then (some (some (.int (0 : Int32)), s51)) else (g_ix (s51.1 0 39) 40 (if (((s51.1 14 (s51.1 0 39).toNatClampNeg) >>> ((0 : Int32) &&& 31)) &&& (1 : Int32)) = (1 : Int32) then (g_bind (f_X10_faults (4 : Int32) s51) (g_ki (fun r58 s57 => (g_01 r58 (some (some (.int r58), s57)))))) else (g_ix (s51.1 0 39) 40 (g_ix (s51.1 0 39) 40 (g_let (g_si s51 14 (s51.1 0 39).toNatClampNeg ((s51.1 14 (s51.1 0 39).toNatClampNeg) ||| ((1 : Int32) <<< ((0 : Int32) &&& 31)))) (fun s53 => (g_bind (f_X10_goOn s53) (g_kv (fun s54 => (g_bind (f_X10_stops s54) (g_ki (fun r56 s55 => (g_01 r56 (some (some (.int r56), s55)))))))))))))))))))))))))))))))
def wShade : List Int32 := [115, 104, 97, 100, 101]
def wWater : List Int32 := [119, 97, 116, 101, 114]
def wFlies : List Int32 := [102, 108, 105, 101, 115]
theorem wn4 : Wn 4 wShade := ⟨by decide, by decide, by decide, by decide⟩
theorem wn5 : Wn 5 wWater := ⟨by decide, by decide, by decide, by decide⟩
theorem wn6 : Wn 6 wFlies := ⟨by decide, by decide, by decide, by decide⟩
section ENTRY4
variable {T : Nat → Int32} {len : Nat}
theorem SA.w5 {c m : gS} {kd st en w : Nat} {v1 v2 v3 v4 v5 : Int32} (s : SA c m T len kd st en) (h4 : ¬ v4 = 0) (h5 : ¬ v5 = 0) (hW : Wn w [v1, v2, v3, v4, v5]) : ∃ r : Int32, (r = 0 ∨ r = 1) ∧ f_X7_isWord w c = some (some (.int r), c) ∧ f_X10_isWord v1 v2 v3 v4 v5 0 m = some (some (.int r), m) := by
  have s' := s
  obtain ⟨a1, a2, a3, a4, a5, a6, a7, a8, a9, a10⟩ := s'
  exact s.wd hW (iw_m5 h4 h5 a2 a6 a7 a8 a9)
theorem thing_w {c m : gS} {kd st en : Nat} (s : SA c m T len kd st en) : (∃ v, v < 3 ∧ f_X5_thingOfWord c = some (some (.int (nI (2 ^ v))), c) ∧ mW m = mT (nI v) m) ∨ (f_X5_thingOfWord c = some (some (.int 0), c) ∧ mW m = g_bind (f_X10_faults (1 : Int32) m) (g_ki (fun r21 s20 => (g_01 r21 (some (some (.int r21), s20)))))) := by
  obtain ⟨r1, a1, a2, a3⟩ := s.w5 (by decide) (by decide) wn4
  obtain ⟨r2, b1, b2, b3⟩ := s.w5 (by decide) (by decide) wn5
  obtain ⟨r3, d1, d2, d3⟩ := s.w5 (by decide) (by decide) wn6
  unfold f_X5_thingOfWord mW
  rw [a2, a3, gb_i, gb_i]
  rcases a1 with rfl | rfl
  · rw [i00, i00, b2, b3, gb_i, gb_i]
    rcases b1 with rfl | rfl
    · rw [i00, i00, d2, d3, gb_i, gb_i]
      rcases d1 with rfl | rfl
      · rw [i00, i00, if_pos rfl]
        exact Or.inr ⟨rfl, rfl⟩
      · rw [i10, i10, if_neg (by decide)]
        exact Or.inl ⟨2, by omega, rfl, rfl⟩
    · rw [i10, i10, if_neg (by decide)]
      exact Or.inl ⟨1, by omega, rfl, rfl⟩
  · rw [i10, i10, if_neg (by decide)]
    exact Or.inl ⟨0, by omega, rfl, rfl⟩
theorem E_thing {c m : gS} {kd st en w h : Nat} (sa : SA c m T len kd st en) (D : DD c m w h) : Out c m T len en w h (g_let (g_si c 3 6 ((c.1 3 6) + (1 : Int32))) (fun s35 => (if (s35.1 3 6) ≤ (15 : Int32) then (g_bind (f_X5_readThing s35) (g_ki (fun r37 s36 => (g_01 r37 (some (some (.int r37), s36)))))) else (g_bind (f_X5_fail (3 : Int32) s35) (g_ki (fun r39 s38 => (g_01 r39 (some (some (.int r39), s38))))))))) (f_X10_readsThing m) := by
  obtain ⟨hr, wq, ng, nt, nk, l, th, gr, ti, L, D1, D2, D3, D4, D5, D6, D7, D8, D9, D10, D11, D12, D13, D14, D15⟩ := D
  have hn40 := L.1.n
  unfold f_X10_readsThing
  rw [gl_s, si_eq, D12.1, D12.2.1, nI_1]
  by_cases e : nk = 15
  · rw [if_neg (show ¬ nI (nk + 1) ≤ 15 from fun z => by have := (nI_leI (b := 15) (by omega) (by omega)).mp z; omega), if_pos (show nI nk = 15 by rw [e]; rfl)]
    exact (sa.ci (k := 3) (by decide) (by decide)).fl (PF.si (by decide) (by decide))
  · rw [if_pos (show nI (nk + 1) ≤ 15 from nI_le (b := 15) (by omega) (by omega)), if_neg (show ¬ nI nk = 15 from fun z => e ((nI_eq (b := 15) (by omega) (by omega)).mp z)), gl_s]
    obtain ⟨m0, kd0, st0, en0, g0, g0', sb⟩ := ((sa.ci (k := 3) (j := 6) (v := nI (nk + 1)) (by decide) (by decide)).m0 (j := 33) (v := nI (nk + 1)) (by decide) (by decide) (by decide) (by decide) (by decide)).go
    have g0r : ∀ r, r ≠ 0 → m0.1 r = m.1 r := fun r hr => (g0.1 r hr).trans (sir hr)
    have g0z : ∀ j, j ≠ 18 → j ≠ 19 → j ≠ 20 → j ≠ 21 → j ≠ 33 → m0.1 0 j = m.1 0 j := fun j a b d e f => by rw [g0.2 j a b d e, si_nj f]
    have MK0 : Mk m m0 := Mk.p0 g0r (fun j hj => g0z j (by omega) (by omega) (by omega) (by omega) (by omega))
    have o1 := sb.2.2.2.2.1.1.1
    rw [g0', gb_v]
    obtain ⟨c2, f2, n2, sa2⟩ := sb.nt
    have o2 := sa2.2.2.2.2.2.2.2.1
    have PF2 : PF c c2 := (PF.si (by decide) (by decide)).tr f2.pf
    have L2 : Ld c2 4 w h := L.congr (fun k a b => by rw [(f2.1 k (by simp; omega)).1, sir (by omega)])
    have hm : ∀ X : gR, mW m0 = X → Out c m T len en w h (g_bind (f_X5_readThing (g_si c 3 6 (nI (nk + 1)))) (g_ki (fun r37 s36 => (g_01 r37 (some (some (.int r37), s36)))))) X → Out c m T len en w h (g_bind (f_X5_readThing (g_si c 3 6 (nI (nk + 1)))) (g_ki (fun r37 s36 => (g_01 r37 (some (some (.int r37), s36)))))) (mW m0) := fun X a b => by rw [a]; exact b
    rcases thing_w sa2 with ⟨v, hv, e1, e2⟩ | ⟨e1, e2⟩
    · have hT : f_X5_readThing (g_si c 3 6 (nI (nk + 1))) = cT (nI (2 ^ v)) c2 := by
        unfold f_X5_readThing
        rw [n2, gb_v, e1, gb_i, if_neg]
        · rfl
        · rcases (show v = 0 ∨ v = 1 ∨ v = 2 by omega) with rfl | rfl | rfl <;> decide
      refine hm _ e2 ?_
      rw [hT]
      rcases sa2.thing_t (th := th) hv L2 (by rw [g0z 22 (by decide) (by decide) (by decide) (by decide) (by decide)]; exact D1.1) (by rw [g0z 23 (by decide) (by decide) (by decide) (by decide) (by decide)]; exact D1.2) D15 (fun q hq => by rw [(f2.1 8 (by simp)).1, sir (by decide), g0r 14 (by decide)]; exact D5 q hq) with ⟨c', m', q, p', kd', st', en', s1, lt, q1, S, S1, R8, G, G0, G14, e3, e4⟩ | ⟨c', m', p1, p2, p3, e3, e4⟩
      · refine Or.inl ⟨c', m', p', kd', st', en', s1, by omega, ?_, ?_, ?_, ?_, e4⟩
        · exact PF2.tr ⟨S.mono (fun k hk => by simp at hk ⊢; omega), S1 1 (by decide) (by decide) (by decide)⟩
        · exact MK0.tr (Mk.p0' (fun r a b => G r (by omega) (by omega)) (fun j a => G0 j (by omega) (by omega) (by omega) (by omega) (by omega) (by omega)))
        · have rc : ∀ k, k ≠ 1 → k ≠ 3 → k ≠ 8 → c'.1 k = c.1 k := fun k a b d => by rw [(S k (by simp; omega)).1, (f2.1 k (by simp; exact a)).1, sir b]
          have r3' : ∀ j, c'.1 3 j = if j = 6 then nI (nk + 1) else c.1 3 j := fun j => by rw [(S 3 (by simp)).1, (f2.1 3 (by simp)).1, row_si]
          have r3 : ∀ j, j ≠ 6 → c'.1 3 j = c.1 3 j := fun j a => by rw [r3' j, if_neg a]
          have rm : ∀ r, r ≠ 0 → r ≠ 14 → m'.1 r = m.1 r := fun r a b => by rw [G r a b, g0r r a]
          have z0 : ∀ j, (j = 22 ∨ j = 23 ∨ j = 29 ∨ j = 30 ∨ j = 32 ∨ j = 34 ∨ j = 35 ∨ j = 36 ∨ j = 37) → m'.1 0 j = m.1 0 j := fun j a => by rw [G0 j (by omega) (by omega) (by omega) (by omega) (by omega) (by omega), g0z j (by omega) (by omega) (by omega) (by omega) (by omega)]
          refine ⟨hr, wq, ng, nt, nk + 1, l, updN th q (th q ||| 2 ^ v), gr, ti, L.cg (fun j _ => by rw [rc 4 (by decide) (by decide) (by decide)]) (rc 5 (by decide) (by decide) (by decide)) (rc 6 (by decide) (by decide) (by decide)) (rc 10 (by decide) (by decide) (by decide)) (rc 11 (by decide) (by decide) (by decide)), ?_, ?_, ?_, ?_, fun j hj => ?_, ?_, ?_, ?_, ?_, ?_, ?_, ?_, ?_, ?_, D15⟩
          · rw [z0 22 (by omega), z0 23 (by omega)]; exact D1
          · rw [rc 4 (by decide) (by decide) (by decide), z0 30 (by omega)]; exact D2
          · rw [rc 4 (by decide) (by decide) (by decide), z0 29 (by omega)]; exact D3
          · rw [rc 4 (by decide) (by decide) (by decide), rm 17 (by decide) (by decide)]; exact D4
          · rw [R8 j, G14 j]
            by_cases ej : j = q
            · rw [if_pos ej, if_pos ej, ej, updN_eq]; exact ⟨rfl, rfl, (bitsT (th q) (D5 q q1).2.2 v hv).2.2.2⟩
            · rw [if_neg ej, if_neg ej, updN_ne ej, (f2.1 8 (by simp)).1, sir (by decide), g0r 14 (by decide)]; exact D5 j hj
          · rw [rc 7 (by decide) (by decide) (by decide), rm 12 (by decide) (by decide)]; exact D6
          · rw [rc 9 (by decide) (by decide) (by decide), rm 13 (by decide) (by decide)]; exact D7
          · rw [rc 12 (by decide) (by decide) (by decide), rm 15 (by decide) (by decide)]; exact D8
          · rw [rc 13 (by decide) (by decide) (by decide), rm 16 (by decide) (by decide)]; exact D9
          · rw [r3 4 (by decide), z0 32 (by omega)]; exact D10
          · rw [r3 5 (by decide), z0 34 (by omega)]; exact D11
          · refine ⟨by rw [r3' 6, if_pos rfl], ?_, by omega⟩
            rw [G0 33 (by decide) (by decide) (by decide) (by decide) (by decide) (by decide), g0.2 33 (by decide) (by decide) (by decide) (by decide), si_eq]
          · rw [r3 7 (by decide), r3 8 (by decide), z0 35 (by omega), z0 36 (by omega)]; exact D13
          · rw [r3 9 (by decide), r3 10 (by decide), z0 37 (by omega)]; exact D14
        · rw [e3, gb_i]; rfl
      · refine Or.inr ⟨c', m', PF2.tr p1, MK0.tr p2, p3, ?_, e4⟩
        rw [e3, gb_i]; rfl
    · refine hm _ e2 ?_
      obtain ⟨c', m', p1, p2, p3, p4, p5, p6⟩ := sa2.fail 1 (by omega) (by omega)
      have hT : f_X5_readThing (g_si c 3 6 (nI (nk + 1))) = some (some (.int 0), c') := by
        unfold f_X5_readThing
        rw [n2, gb_v, e1, gb_i, i00, c32_1, p5, gb_i]; rfl
      rw [hT, gb_i, c32_1, p6, gb_i]
      exact Or.inr ⟨c', m', PF2.tr (PF.f3 (p1.mono (fun k hk => by simp at hk ⊢; omega)) (fun j _ _ _ => by rw [(p1 1 (by simp)).1])), MK0.tr (Mk.p0 p2 (fun j hj => p3 j (by omega))), p4, rfl, rfl⟩
end ENTRY4
