/-! The land is laid out -/
def Sz (c : gS) (w h : Nat) : Prop := Dm w h ∧ c.1 4 0 = nI w ∧ c.1 4 1 = nI h ∧ c.1 4 2 = nI (w * h)
def Wy (s : gS) (q : Nat) (l : List Nat) : Prop := s.1 11 q = nI l.length ∧ ∀ i, i < l.length → s.1 10 (q * 5 + i) = nI (l.getD i 0)
def FrW (s s' : gS) (q : Nat) : Prop := Sm [10, 11] s s' ∧ (∀ j, j ≠ q → s'.1 11 j = s.1 11 j) ∧ ∀ j, (j < q * 5 ∨ q * 5 + 5 ≤ j) → s'.1 10 j = s.1 10 j
theorem FrW.tr {s s' s'' : gS} {q : Nat} (a : FrW s s' q) (b : FrW s' s'' q) : FrW s s'' q := ⟨a.1.tr b.1, fun j hj => (b.2.1 j hj).trans (a.2.1 j hj), fun j hj => (b.2.2 j hj).trans (a.2.2 j hj)⟩
theorem FrW.rf {s : gS} {q : Nat} : FrW s s q := ⟨Sm.rf, fun _ _ => rfl, fun _ _ => rfl⟩
section LAYOUT
variable {w h : Nat}
theorem Sz.cg {s s' : gS} (a : Sz s w h) (e : s'.1 4 = s.1 4) : Sz s' w h := by unfold Sz at *; rw [e]; exact a
theorem sz_has {s : gS} (L : Sz s w h) {q : Nat} (hq : q < w * h) : f_X3_has 4 (nI q) s = some (some (.int 1), s) := by
  have hn := L.1.n
  unfold f_X3_has
  rw [if_neg (nI_n0 (by omega)), L.2.2.2, if_neg (by rw [nI_leI (by omega) (by omega)]; omega), c32_40, if_neg (by rw [nI_leI (by omega) (by omega)]; omega)]
theorem sz_in {s : gS} (L : Sz s w h) {q : Nat} (hq : q < w * h) : f_X3_cellAt 4 (nI (q % w)) (nI (q / w)) s = some (some (.int (nI q)), s) := by
  obtain ⟨h1, h2, h3, h4, h5⟩ := L.1.q hq
  have hw := L.1.w
  have hh := L.1.h
  unfold f_X3_cellAt
  rw [if_neg (nI_n0 (by omega)), L.2.1, if_neg (by rw [nI_leI (by omega) (by omega)]; omega), if_neg (nI_n0 (by omega)), L.2.2.1, if_pos (by rw [nI_ltI (by omega) (by omega)]; omega), pk_mul, nI_add, h5]
theorem sz_out {s : gS} (L : Sz s w h) {x y : Int32} (hx : ¬ inR w h x y) : f_X3_cellAt 4 x y s = some (some (.int (-1)), s) := by
  have hw := L.1.w
  have hh := L.1.h
  unfold f_X3_cellAt
  rw [L.2.1, L.2.2.1]
  rcases i32c x with q | ⟨i, hi, rfl⟩
  · rw [if_pos q]
  · rw [if_neg (nI_n0 hi)]
    by_cases h1 : w ≤ i
    · rw [if_pos ((nI_leI (by omega) hi).mpr h1)]
    · rw [if_neg (by rw [nI_leI (by omega) hi]; omega)]
      rcases i32c y with q | ⟨j, hj, rfl⟩
      · rw [if_pos q]
      · rw [if_neg (nI_n0 hj), if_neg]
        intro h2
        rw [nI_ltI hj (by omega)] at h2
        obtain ⟨e1, e2, e3⟩ := inR_mk (w := w) (h := h) (i := i) (j := j) (by omega) h2
        exact hx ⟨j * w + i, e1, by rw [e2], by rw [e3]⟩
/-- one way -/
theorem addWay_c {s : gS} {q : Nat} {l : List Nat} {X Y : Int32} {o : Option Nat} (L : Sz s w h) (hq : q < w * h) (W : Wy s q l) (hl : l.length < 5) (h0 : o = none → ¬ inR w h X Y) (h1 : ∀ t, o = some t → t < w * h ∧ X = nI (t % w) ∧ Y = nI (t / w)) :
    ∃ s', FrW s s' q ∧ Wy s' q (l ++ o.toList) ∧ f_X3_addWay 4 (nI q) X Y s = some (none, s') := by
  have hn := L.1.n
  unfold f_X3_addWay
  cases o with
  | none =>
    rw [sz_out L (h0 rfl), gb_i, has_no, gb_i, i00]
    exact ⟨s, FrW.rf, by simpa using W, rfl⟩
  | some t =>
    obtain ⟨a1, rfl, rfl⟩ := h1 t rfl
    rw [sz_in L a1, gb_i, sz_has L a1, gb_i, i10, g_ixn (by omega) (by omega), nI_clamp (by omega), show 4 + 7 = 11 from rfl, show 4 + 6 = 10 from rfl, W.1, if_pos (show nI l.length < (5 : Int32) from nI_lt (b := 5) hl (by omega)), g_ixn (by omega) (by omega), show (5 : Int32) = nI 5 from rfl, pk_mul, nI_add, g_ixn (by omega) (by omega), nI_clamp (by omega), gl_s, g_ixn (by omega) (by omega), g_ixn (by omega) (by omega), gl_s, sir (a := 11) (k := 10) (by decide), W.1, nI_1]
    refine ⟨_, ⟨(Sm.si (by simp)).tr (Sm.si (by simp)), fun j hj => by rw [si_nj hj, sir (by decide)], fun j hj => by rw [sir (by decide), si_nj (by omega)]⟩, ⟨by rw [si_eq]; simp, fun i hi => ?_⟩, rfl⟩
    rw [sir (by decide)]
    have hi' : i < l.length + 1 := by simpa using hi
    by_cases e : i = l.length
    · subst e
      rw [si_eq]; simp
    · rw [si_nj (by omega), W.2 i (by omega)]
      simp [List.getD_eq_getElem?_getD, List.getElem?_append_left (show i < l.length by omega)]
theorem fm_cons {f : Nat → Option Nat} {a : Nat} {l : List Nat} : List.filterMap f (a :: l) = (f a).toList ++ List.filterMap f l := by
  cases hh : f a <;> simp [List.filterMap_cons, hh]
theorem wayL_eq {q : Nat} : wayL w h q = ((((([] ++ (wayS w h q 0).toList) ++ (wayS w h q 1).toList) ++ (wayS w h q 2).toList) ++ (wayS w h q 3).toList) ++ (wayS w h q 4).toList) := by
  unfold wayL
  rw [fm_cons, fm_cons, fm_cons, fm_cons, fm_cons]
  simp
/-- what stands of a cell that is laid -/
def Cl (s : gS) (w h q : Nat) : Prop := s.1 5 q = nI (q % w) ∧ s.1 6 q = nI (q / w) ∧ s.1 7 q = 1 ∧ s.1 8 q = 0 ∧ s.1 9 q = 1 ∧ Wy s q (wayL w h q)
def FrC (s s' : gS) (q : Nat) : Prop := Sm [5, 6, 7, 8, 9, 10, 11] s s' ∧ (∀ k j, 5 ≤ k → k ≤ 9 → j ≠ q → s'.1 k j = s.1 k j) ∧ (∀ j, j ≠ q → s'.1 11 j = s.1 11 j) ∧ ∀ j, (j < q * 5 ∨ q * 5 + 5 ≤ j) → s'.1 10 j = s.1 10 j
theorem FrW.c {s s' : gS} {q : Nat} (a : FrW s s' q) : FrC s s' q := ⟨a.1.mono (fun k hk => by simp at hk ⊢; omega), fun k j _ _ _ => by rw [(a.1 k (by simp; omega)).1], a.2.1, a.2.2⟩
theorem FrC.tr {s s' s'' : gS} {q : Nat} (a : FrC s s' q) (b : FrC s' s'' q) : FrC s s'' q := ⟨a.1.tr b.1, fun k j x y z => (b.2.1 k j x y z).trans (a.2.1 k j x y z), fun j hj => (b.2.2.1 j hj).trans (a.2.2.1 j hj), fun j hj => (b.2.2.2 j hj).trans (a.2.2.2 j hj)⟩
theorem FrC.si {s : gS} {k q : Nat} {v : Int32} (hk : 5 ≤ k ∧ k ≤ 9 ∨ k = 11) : FrC s (g_si s k q v) q := ⟨Sm.si (by simp; omega), fun k' j _ _ hj => by
  by_cases e : k' = k
  · subst e; rw [si_nj hj]
  · rw [sir e], fun j hj => by
  by_cases e : 11 = k
  · subst e; rw [si_nj hj]
  · rw [sir e], fun j _ => by rw [sir (by omega)]⟩
theorem Wy.fr {s s' : gS} {q t : Nat} {l : List Nat} (W : Wy s t l) (hl : l.length ≤ 5) (F : FrC s s' q) (hne : t ≠ q) : Wy s' t l := ⟨by rw [F.2.2.1 t hne]; exact W.1, fun i hi => by rw [F.2.2.2 _ (by omega)]; exact W.2 i hi⟩
theorem Cl.fr {s s' : gS} {q t : Nat} (C : Cl s w h t) (d : Dm w h) (ht : t < w * h) (F : FrC s s' q) (hne : t ≠ q) : Cl s' w h t := by
  obtain ⟨a1, a2, a3, a4, a5, a6⟩ := C
  exact ⟨by rw [F.2.1 5 t (by omega) (by omega) hne]; exact a1, by rw [F.2.1 6 t (by omega) (by omega) hne]; exact a2, by rw [F.2.1 7 t (by omega) (by omega) hne]; exact a3, by rw [F.2.1 8 t (by omega) (by omega) hne]; exact a4, by rw [F.2.1 9 t (by omega) (by omega) hne]; exact a5, a6.fr (way_len d ht).2.1 F hne⟩
theorem inR_x {x : Nat} {Y : Int32} (d : Dm w h) (hx : w ≤ x) (h31 : x < 2 ^ 31) : ¬ inR w h (nI x) Y := by
  rintro ⟨t, t1, t2, t3⟩
  obtain ⟨b1, b2, b3, b4, b5⟩ := d.q t1
  have hw := d.w
  rw [nI_eq h31 (by omega)] at t2
  omega
theorem inR_y {y : Nat} {X : Int32} (d : Dm w h) (hy : h ≤ y) (h31 : y < 2 ^ 31) : ¬ inR w h X (nI y) := by
  rintro ⟨t, t1, t2, t3⟩
  obtain ⟨b1, b2, b3, b4, b5⟩ := d.q t1
  have hh := d.h
  rw [nI_eq h31 (by omega)] at t3
  omega
theorem inR_mx {Y : Int32} (d : Dm w h) : ¬ inR w h (-1) Y := by
  rintro ⟨t, t1, t2, t3⟩
  obtain ⟨b1, b2, b3, b4, b5⟩ := d.q t1
  have hw := d.w
  exact nI_m1 (k := t % w) (by omega) t2.symm
theorem inR_my {X : Int32} (d : Dm w h) : ¬ inR w h X (-1) := by
  rintro ⟨t, t1, t2, t3⟩
  obtain ⟨b1, b2, b3, b4, b5⟩ := d.q t1
  have hh := d.h
  exact nI_m1 (k := t / w) (by omega) t3.symm
/-- one cell -/
theorem layCell_c {s : gS} {x y : Nat} (L : Sz s w h) (hx : x < w) (hy : y < h) : ∃ s', FrC s s' (y * w + x) ∧ Cl s' w h (y * w + x) ∧ f_X3_layCell 4 (nI x) (nI y) s = some (none, s') := by
  obtain ⟨i1, i2, i3⟩ := inR_mk (w := w) (h := h) (i := x) (j := y) hx hy
  have hw := L.1.w
  have hh := L.1.h
  have hn := L.1.n
  have hc := sz_in L i1
  rw [i2, i3] at hc
  generalize hq : y * w + x = q at i1 i2 i3 hc ⊢
  have gi : ∀ o : gR, g_ix (nI q) 40 o = o := fun o => g_ixn (by omega) (by omega)
  have ci : (nI q).toNatClampNeg = q := nI_clamp (by omega)
  unfold f_X3_layCell
  rw [hc, gb_i, sz_has L i1, gb_i, i10]
  simp only [gi, ci, gl_s]
  rw [show 4 + 1 = 5 from rfl, show 4 + 2 = 6 from rfl, show 4 + 3 = 7 from rfl, show 4 + 4 = 8 from rfl, show 4 + 5 = 9 from rfl, show 4 + 7 = 11 from rfl]
  generalize hz : g_si (g_si (g_si (g_si (g_si (g_si s 5 q (nI x)) 6 q (nI y)) 7 q 1) 8 q 0) 9 q 1) 11 q 0 = z
  have zF : FrC s z q := by
    rw [← hz]
    exact (((((FrC.si (by omega)).tr (FrC.si (by omega))).tr (FrC.si (by omega))).tr (FrC.si (by omega))).tr (FrC.si (by omega))).tr (FrC.si (by omega))
  have zL : Sz z w h := L.cg (zF.1 4 (by simp)).1
  have z5 : z.1 5 q = nI (q % w) := by rw [← hz, i2, sir (by decide), sir (by decide), sir (by decide), sir (by decide), sir (by decide), si_eq]
  have z6 : z.1 6 q = nI (q / w) := by rw [← hz, i3, sir (by decide), sir (by decide), sir (by decide), sir (by decide), si_eq]
  have z7 : z.1 7 q = 1 := by rw [← hz, sir (by decide), sir (by decide), sir (by decide), si_eq]
  have z8 : z.1 8 q = 0 := by rw [← hz, sir (by decide), sir (by decide), si_eq]
  have z9 : z.1 9 q = 1 := by rw [← hz, sir (by decide), si_eq]
  have zW : Wy z q [] := ⟨by rw [← hz, si_eq]; rfl, fun i hi => absurd hi (by simp)⟩
  have len1 : ∀ o : Option Nat, o.toList.length ≤ 1 := fun o => by cases o <;> simp
  obtain ⟨s0, f0, w0, e0⟩ := addWay_c (X := nI x) (Y := nI y) (o := wayS w h q 0) zL i1 zW (by simp) (fun z => by simp [wayS] at z) (fun t ht => by
    simp [wayS] at ht
    subst ht
    exact ⟨i1, by rw [i2], by rw [i3]⟩)
  have l0 := len1 (wayS w h q 0)
  have L0 : Sz s0 w h := zL.cg (f0.1 4 (by simp)).1
  obtain ⟨s1, f1, w1, e1⟩ := addWay_c (X := nI x) (Y := nI y - 1) (o := wayS w h q 1) L0 i1 w0 (by rw [List.length_append]; simp; omega) (fun z => by
    simp only [wayS, i3] at z
    have hy0 : y = 0 := by
      by_cases e : 0 < y
      · rw [if_pos e] at z; exact absurd z (by simp)
      · omega
    rw [hy0, show nI 0 - 1 = -1 by decide]
    exact inR_my L.1) (fun t ht => by
    simp only [wayS, i3] at ht
    by_cases e : 0 < y
    · rw [if_pos e] at ht
      have ht' : q - w = t := Option.some.inj ht
      obtain ⟨j1, j2, j3⟩ := inR_mk (w := w) (h := h) (i := x) (j := y - 1) hx (by omega)
      have e1 : y * w = (y - 1) * w + w := by rw [← Nat.succ_mul]; congr 1; omega
      have e2 : (y - 1) * w + x = t := by omega
      rw [e2] at j1 j2 j3
      exact ⟨j1, by rw [j2], by rw [j3, c32_1, pk_sub (by omega)]⟩
    · rw [if_neg e] at ht; exact absurd ht (by simp))
  have l1 := len1 (wayS w h q 1)
  have L1 : Sz s1 w h := L0.cg (f1.1 4 (by simp)).1
  obtain ⟨s2, f2, w2, e2⟩ := addWay_c (X := nI x + 1) (Y := nI y) (o := wayS w h q 2) L1 i1 w1 (by rw [List.length_append, List.length_append]; simp; omega) (fun z => by
    simp only [wayS, i2] at z
    rw [nI_1]
    refine inR_x L.1 ?_ (by omega)
    by_cases e : x + 1 < w
    · rw [if_pos e] at z; exact absurd z (by simp)
    · omega) (fun t ht => by
    simp only [wayS, i2] at ht
    by_cases e : x + 1 < w
    · rw [if_pos e] at ht
      have ht' : q + 1 = t := Option.some.inj ht
      obtain ⟨j1, j2, j3⟩ := inR_mk (w := w) (h := h) (i := x + 1) (j := y) e hy
      have e2 : y * w + (x + 1) = t := by omega
      rw [e2] at j1 j2 j3
      exact ⟨j1, by rw [j2, nI_1], by rw [j3]⟩
    · rw [if_neg e] at ht; exact absurd ht (by simp))
  have l2 := len1 (wayS w h q 2)
  have L2 : Sz s2 w h := L1.cg (f2.1 4 (by simp)).1
  obtain ⟨s3, f3, w3, e3⟩ := addWay_c (X := nI x) (Y := nI y + 1) (o := wayS w h q 3) L2 i1 w2 (by rw [List.length_append, List.length_append, List.length_append]; simp; omega) (fun z => by
    simp only [wayS, i3] at z
    rw [nI_1]
    refine inR_y L.1 ?_ (by omega)
    by_cases e : y + 1 < h
    · rw [if_pos e] at z; exact absurd z (by simp)
    · omega) (fun t ht => by
    simp only [wayS, i3] at ht
    by_cases e : y + 1 < h
    · rw [if_pos e] at ht
      have ht' : q + w = t := Option.some.inj ht
      obtain ⟨j1, j2, j3⟩ := inR_mk (w := w) (h := h) (i := x) (j := y + 1) hx e
      have e1 : (y + 1) * w = y * w + w := Nat.succ_mul y w
      have e2 : (y + 1) * w + x = t := by omega
      rw [e2] at j1 j2 j3
      exact ⟨j1, by rw [j2], by rw [j3, nI_1]⟩
    · rw [if_neg e] at ht; exact absurd ht (by simp))
  have l3 := len1 (wayS w h q 3)
  have L3 : Sz s3 w h := L2.cg (f3.1 4 (by simp)).1
  obtain ⟨s4, f4, w4, e4⟩ := addWay_c (X := nI x - 1) (Y := nI y) (o := wayS w h q 4) L3 i1 w3 (by rw [List.length_append, List.length_append, List.length_append, List.length_append]; simp; omega) (fun z => by
    simp only [wayS, i2] at z
    have hx0 : x = 0 := by
      by_cases e : 0 < x
      · rw [if_pos e] at z; exact absurd z (by simp)
      · omega
    rw [hx0, show nI 0 - 1 = -1 by decide]
    exact inR_mx L.1) (fun t ht => by
    simp only [wayS, i2] at ht
    by_cases e : 0 < x
    · rw [if_pos e] at ht
      have ht' : q - 1 = t := Option.some.inj ht
      obtain ⟨j1, j2, j3⟩ := inR_mk (w := w) (h := h) (i := x - 1) (j := y) (by omega) hy
      have e2 : y * w + (x - 1) = t := by omega
      rw [e2] at j1 j2 j3
      exact ⟨j1, by rw [j2, c32_1, pk_sub (by omega)], by rw [j3]⟩
    · rw [if_neg e] at ht; exact absurd ht (by simp))
  rw [e0, gb_vn, e1, gb_vn, e2, gb_vn, e3, gb_vn, e4, gb_vn]
  have FF := (((f0.tr f1).tr f2).tr f3).tr f4
  refine ⟨s4, zF.tr FF.c, ⟨?_, ?_, ?_, ?_, ?_, ?_⟩, rfl⟩
  · rw [(FF.1 5 (by simp)).1]; exact z5
  · rw [(FF.1 6 (by simp)).1]; exact z6
  · rw [(FF.1 7 (by simp)).1]; exact z7
  · rw [(FF.1 8 (by simp)).1]; exact z8
  · rw [(FF.1 9 (by simp)).1]; exact z9
  · rw [wayL_eq]; exact w4
end LAYOUT
