/-! Any entry -/
def wMeadow : List Int32 := [109, 101, 97, 100, 111, 119]
def wGrass : List Int32 := [103, 114, 97, 115, 115]
def wTithe : List Int32 := [116, 105, 116, 104, 101]
def wThing : List Int32 := [116, 104, 105, 110, 103]
def wCow : List Int32 := [99, 111, 119]
def wLikes : List Int32 := [108, 105, 107, 101, 115]
theorem wn0 : Wn 0 wMeadow := ⟨by decide, by decide, by decide, by decide⟩
theorem wn1 : Wn 1 wGrass := ⟨by decide, by decide, by decide, by decide⟩
theorem wn2 : Wn 2 wTithe := ⟨by decide, by decide, by decide, by decide⟩
theorem wn3 : Wn 3 wThing := ⟨by decide, by decide, by decide, by decide⟩
theorem wn7 : Wn 7 wCow := ⟨by decide, by decide, by decide, by decide⟩
theorem wn8 : Wn 8 wLikes := ⟨by decide, by decide, by decide, by decide⟩
section ITEM
variable {T : Nat → Int32} {len : Nat}
theorem Out.wrap {c m : gS} {en w h : Nat} {oc om : gR} (o : Out c m T len en w h oc om) : Out c m T len en w h oc (g_bind om (g_ki (fun r s => (g_01 r (some (some (.int r), s)))))) := by
  rcases o with ⟨c', m', p', kd', st', en', a1, a2, a3, a4, a5, a6, a7⟩ | ⟨c', m', a1, a2, a3, a4, a5⟩
  · exact Or.inl ⟨c', m', p', kd', st', en', a1, a2, a3, a4, a5, a6, by rw [a7, gb_i]; rfl⟩
  · exact Or.inr ⟨c', m', a1, a2, a3, a4, by rw [a5, gb_i]; rfl⟩
theorem SA.fl1 {c m : gS} {kd st en w h f : Nat} (s : SA c m T len kd st en) (h1 : 1 ≤ f) (h4 : f ≤ 4) : Out c m T len en w h (g_bind (f_X5_fail (nI f) c) (g_ki (fun r s => (g_01 r (some (some (.int r), s)))))) (g_bind (f_X10_faults (nI f) m) (g_ki (fun r s => (g_01 r (some (some (.int r), s)))))) := by
  obtain ⟨c', m', p1, p2, p3, p4, p5, p6⟩ := s.fail f h1 h4
  rw [p5, p6, gb_i, gb_i]
  exact Or.inr ⟨c', m', PF.f3 (p1.mono (fun k hk => by simp at hk ⊢; omega)) (fun j _ _ _ => by rw [(p1 1 (by simp)).1]), Mk.p0 p2 (fun j hj => p3 j (by omega)), p4, rfl, rfl⟩
theorem E_item {c m : gS} {kd st en w h : Nat} (sa : SA c m T len kd st en) (D : DD c m w h) : Out c m T len en w h (f_X5_readEntry c) (f_X10_readsItem m) := by
  have sa' := sa
  obtain ⟨x1, x2, x3, x4, x5, x6, x7, x8, x9, x10⟩ := sa'
  unfold f_X5_readEntry f_X10_readsItem
  obtain ⟨r1, a1, a2, a3⟩ := sa.w5 (by decide) (by decide) wn1
  rw [a2, a3, gb_i, gb_i]
  rcases a1 with rfl | rfl
  rotate_left
  · rw [i10, i10]; exact (E_grass sa D).wrap
  rw [i00, i00]
  obtain ⟨r3, d1, d2, d3⟩ := sa.w5 (by decide) (by decide) wn3
  have T1 := iw_c wn2 x1 x3 x4 x5 x7 x8 x9
  have T2 := iw_m5 (v1 := 116) (v2 := 105) (v3 := 116) (v4 := 104) (v5 := 101) (by decide) (by decide) x2 x6 x7 x8 x9
  have H2 := iw_m5 (v1 := 116) (v2 := 104) (v3 := 105) (v4 := 110) (v5 := 103) (by decide) (by decide) x2 x6 x7 x8 x9
  rcases Classical.em (Wd T kd st en wTithe) with hT | hT
  · have hN : ¬ Wd T kd st en [116, 104, 105, 110, 103] := fun z => by
      have y1 := hT.2.2 1 (by decide)
      have y2 := z.2.2 1 (by decide)
      rw [y1] at y2
      exact absurd y2 (by decide)
    rw [T1.1 hT, gb_i, i10, H2.2 hN, gb_i, i00, T2.1 hT, gb_i, i10]
    exact (E_tithe sa D).wrap
  · rw [T1.2 hT, gb_i, i00, d2, d3, gb_i, gb_i]
    rcases d1 with rfl | rfl
    rotate_left
    · rw [i10, i10]; exact (E_thing sa D).wrap
    rw [i00, i00, T2.2 hT, gb_i, i00]
    obtain ⟨r4, e1, e2, e3⟩ := sa.wd wn7 (iw_m3 (v1 := 99) (v2 := 111) (v3 := 119) x2 x6 x7 x8 x9)
    rw [e2, e3, gb_i, gb_i]
    rcases e1 with rfl | rfl
    rotate_left
    · rw [i10, i10]; exact (E_cow sa D).wrap
    rw [i00, i00]
    obtain ⟨r5, f1, f2, f3⟩ := sa.w5 (by decide) (by decide) wn8
    rw [f2, f3, gb_i, gb_i]
    rcases f1 with rfl | rfl
    rotate_left
    · rw [i10, i10]; exact (E_likes sa D).wrap
    rw [i00, i00]
    obtain ⟨r6, g1, g2, g3⟩ := sa.wd wn0 (iw_m6 (v1 := 109) (v2 := 101) (v3 := 97) (v4 := 100) (v5 := 111) (v6 := 119) (by decide) (by decide) (by decide) x2 x6 x7 x8 x9)
    rw [g2, g3, gb_i, gb_i]
    rcases g1 with rfl | rfl
    · rw [i00, i00]; exact sa.fl1 (f := 1) (by omega) (by omega)
    · rw [i10, i10]; exact sa.fl1 (f := 3) (by omega) (by omega)
/-- the end of reading: both well or both failed -/
def Fin (c m : gS) (T : Nat → Int32) (len w h : Nat) (c' m' : gS) : Prop := PF c c' ∧ Mk m m' ∧ DD c' m' w h
end ITEM
