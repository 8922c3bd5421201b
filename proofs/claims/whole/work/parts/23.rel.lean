/-! The relation of the two -/
def LR (c m : gS) (w h hr : Nat) (l th ti : Nat → Nat) : Prop := Ld c 14 w h ∧ Md m w h ∧ (c.1 14 4 = nI hr ∧ m.1 0 7 = nI hr ∧ 1 ≤ hr ∧ hr ≤ 8) ∧ LkC c 14 (w * h) l th ∧ (∀ i, i < 4 → 0 < w * h → m.1 6 i = nI (l i)) ∧ (∀ q, q < w * h → m.1 4 q = nI (th q)) ∧ ∀ q, q < w * h → c.1 19 q = nI (ti q) ∧ m.1 5 q = nI (ti q) ∧ ti q ≤ 99
def PR (c m : gS) (a r b n : Nat) (gr fg : Nat → Nat) (wk noon lick : Option Nat) (law sd : Nat) : Prop :=
  (∀ q, q < n → c.1 (a + 1) q = nI (gr q) ∧ m.1 r (b + q) = nI (gr q) ∧ gr q ≤ 18 ∧ c.1 (a + 2) q = nI (fg q) ∧ m.1 r (b + (40 + q)) = nI (fg q) ∧ fg q ≤ 18) ∧
  (c.1 a 3 = oI wk ∧ m.1 r (b + 80) = oI wk ∧ ∀ q, wk = some q → q < n) ∧ (c.1 a 4 = oI noon ∧ m.1 r (b + 81) = oI noon ∧ ∀ q, noon = some q → q < n) ∧ (c.1 a 5 = oI lick ∧ m.1 r (b + 82) = oI lick ∧ ∀ q, lick = some q → q < n) ∧
  c.1 a 6 = m.1 r (b + 83) ∧ c.1 a 7 = m.1 r (b + 84) ∧ c.1 a 8 = m.1 r (b + 85) ∧ (c.1 a 9 = nI law ∧ m.1 r (b + 86) = nI law ∧ law < 3) ∧ (c.1 a 10 = nI sd ∧ m.1 r (b + 87) = nI sd ∧ sd < 2 ^ 31 ∧ (wk = none → n = 0))
def PX (c m : gS) (a r b n : Nat) : Prop := ∃ (gr fg : Nat → Nat) (wk noon lick : Option Nat) (law sd : Nat), PR c m a r b n gr fg wk noon lick law sd
def IM (c m : gS) (n i : Nat) : Prop := c.1 (25 + 4 * i) 1 = m.1 3 i ∧ (m.1 3 i = 0 ∨ (m.1 3 i = 1 ∧ PX c m (26 + 4 * i) 2 (88 * i) n))
def SN (c m : gS) (n : Nat) : Prop := ∃ ns, ns ≤ 10 ∧ c.1 41 4 = nI ns ∧ m.1 0 11 = nI ns ∧ ∀ k, k < ns → ∃ q x, q < n ∧ x ≤ 12 ∧ c.1 42 k = nI q ∧ m.1 7 k = nI q ∧ c.1 43 k = nI x ∧ m.1 8 k = nI x
def BK (c m : gS) (n : Nat) : Prop := ∃ nb, nb ≤ 30 ∧ c.1 46 3 = nI nb ∧ m.1 0 14 = nI nb ∧ ∀ k, k < nb → ∃ q x, q < n ∧ x ≤ 9999 ∧ c.1 47 k = nI q ∧ m.1 9 k = nI q ∧ c.1 48 k = nI x ∧ m.1 10 k = nI x
def TX (c m : gS) : Prop := ∃ len, len ≤ 500 ∧ c.1 1 1 = nI len ∧ m.1 0 16 = nI len ∧ ∀ k, k < len → c.1 2 k = m.1 11 k
def Rel (c m : gS) : Prop := ∃ (w h hr : Nat) (l th ti : Nat → Nat), LR c m w h hr l th ti ∧ PX c m 22 1 0 (w * h) ∧ IM c m (w * h) 0 ∧ IM c m (w * h) 1 ∧ SN c m (w * h) ∧ BK c m (w * h) ∧ TX c m ∧ c.1 3 10 = m.1 0 17
abbrev KC : List Nat := [34, 35, 36, 37, 38, 39, 40, 44, 45]
/-- what the reference keeps between calls, as far as a call that only looks leaves it -/
def Mk (m m' : gS) : Prop := (m'.1 0 3 = m.1 0 3 ∧ m'.1 0 4 = m.1 0 4 ∧ m'.1 0 7 = m.1 0 7 ∧ m'.1 0 11 = m.1 0 11 ∧ m'.1 0 14 = m.1 0 14 ∧ m'.1 0 16 = m.1 0 16 ∧ m'.1 0 17 = m.1 0 17) ∧ ∀ k, 1 ≤ k → k ≤ 11 → m'.1 k = m.1 k
theorem Mk.of1 {m m' : gS} (e : m'.1 = m.1) : Mk m m' := by unfold Mk; rw [e]; simp
theorem Mk.m2 {m m' : gS} (e : M2 m m') : Mk m m' := ⟨⟨e.1 3 (by decide), e.1 4 (by decide), e.1 7 (by decide), e.1 11 (by decide), e.1 14 (by decide), e.1 16 (by decide), e.1 17 (by decide)⟩, fun k a b => e.2 k (by omega) (by omega)⟩
theorem Mk.tr {m m' m'' : gS} (h : Mk m m') (h2 : Mk m' m'') : Mk m m'' := by
  obtain ⟨⟨a1, a2, a3, a4, a5, a6, a7⟩, a8⟩ := h
  obtain ⟨⟨b1, b2, b3, b4, b5, b6, b7⟩, b8⟩ := h2
  exact ⟨⟨b1.trans a1, b2.trans a2, b3.trans a3, b4.trans a4, b5.trans a5, b6.trans a6, b7.trans a7⟩, fun k x y => (b8 k x y).trans (a8 k x y)⟩
theorem Rel.cf {c c' m : gS} (R : Rel c m) (S : Sm KC c c') : Rel c' m := by
  have e : ∀ k, k ∉ KC → c'.1 k = c.1 k := fun k hk => (S k hk).1
  obtain ⟨w, h, hr, l, th, ti, h1, h2, h3, h4, h5, h6, h7, h8⟩ := R
  refine ⟨w, h, hr, l, th, ti, ?_, ?_, ?_, ?_, ?_, ?_, ?_, ?_⟩
  · obtain ⟨a1, a2, a3, a4, a5, a6, a7⟩ := h1
    refine ⟨a1.congr (fun k x y => e k (by simp; omega)), a2, ?_, a4.congr (fun k x y => e k (by simp; omega)), a5, a6, ?_⟩
    · rw [e 14 (by decide)]; exact a3
    · rw [e 19 (by decide)]; exact a7
  · unfold PX PR at *; rw [e 22 (by decide), e (22 + 1) (by decide), e (22 + 2) (by decide)]; exact h2
  · unfold IM PX PR at *; rw [e (25 + 4 * 0) (by decide), e (26 + 4 * 0) (by decide), e (26 + 4 * 0 + 1) (by decide), e (26 + 4 * 0 + 2) (by decide)]; exact h3
  · unfold IM PX PR at *; rw [e (25 + 4 * 1) (by decide), e (26 + 4 * 1) (by decide), e (26 + 4 * 1 + 1) (by decide), e (26 + 4 * 1 + 2) (by decide)]; exact h4
  · unfold SN at *; rw [e 41 (by decide), e 42 (by decide), e 43 (by decide)]; exact h5
  · unfold BK at *; rw [e 46 (by decide), e 47 (by decide), e 48 (by decide)]; exact h6
  · unfold TX at *; rw [e 1 (by decide), e 2 (by decide)]; exact h7
  · rw [e 3 (by decide)]; exact h8
theorem Rel.mf {c m m' : gS} (R : Rel c m) (S : Mk m m') : Rel c m' := by
  obtain ⟨⟨b1, b2, b3, b4, b5, b6, b7⟩, b8⟩ := S
  obtain ⟨w, h, hr, l, th, ti, h1, h2, h3, h4, h5, h6, h7, h8⟩ := R
  refine ⟨w, h, hr, l, th, ti, ?_, ?_, ?_, ?_, ?_, ?_, ?_, ?_⟩
  · unfold LR Md at *; rw [b1, b2, b3, b8 4 (by decide) (by decide), b8 5 (by decide) (by decide), b8 6 (by decide) (by decide)]; exact h1
  · unfold PX PR at *; rw [b8 1 (by decide) (by decide)]; exact h2
  · unfold IM PX PR at *; rw [b8 3 (by decide) (by decide), b8 2 (by decide) (by decide)]; exact h3
  · unfold IM PX PR at *; rw [b8 3 (by decide) (by decide), b8 2 (by decide) (by decide)]; exact h4
  · unfold SN at *; rw [b4, b8 7 (by decide) (by decide), b8 8 (by decide) (by decide)]; exact h5
  · unfold BK at *; rw [b5, b8 9 (by decide) (by decide), b8 10 (by decide) (by decide)]; exact h6
  · unfold TX at *; rw [b6, b8 11 (by decide) (by decide)]; exact h7
  · rw [b7]; exact h8
def Ag (oc om : gR) : Prop := ∃ v c' m', oc = some (some (.int v), c') ∧ om = some (some (.int v), m') ∧ Rel c' m'
theorem Ag.mk' {c' m' : gS} {v v' : Int32} {oc om : gR} (hc : oc = some (some (.int v), c')) (hm : om = some (some (.int v'), m')) (e : v = v') (R : Rel c' m') : Ag oc om := ⟨v, c', m', hc, by rw [e]; exact hm, R⟩
theorem LR.cx {c m : gS} {w h hr law sd : Nat} {l th ti gr fg : Nat → Nat} {wk noon lick : Option Nat} (L : LR c m w h hr l th ti) (P : PR c m 22 1 0 (w * h) gr fg wk noon lick law sd) : CX c w h hr law l th ti gr lick wk :=
  ⟨L.1, L.2.2.2.1, fun q hq => ⟨(L.2.2.2.2.2.2 q hq).1, (L.2.2.2.2.2.2 q hq).2.2⟩, fun q hq => ⟨(P.1 q hq).1, (P.1 q hq).2.2.1⟩, L.2.2.1.1, L.2.2.1.2.2, P.2.2.2.2.2.2.2.1.1, P.2.2.2.2.2.2.2.1.2.2, P.2.2.2.1.1, P.2.2.2.1.2.2, P.2.1.1, P.2.1.2.2⟩
theorem LR.mx {c m : gS} {w h hr law sd : Nat} {l th ti gr fg : Nat → Nat} {wk noon lick : Option Nat} (L : LR c m w h hr l th ti) (P : PR c m 22 1 0 (w * h) gr fg wk noon lick law sd) : MX m w h hr law l th ti gr lick wk ∧ FG m (w * h) fg := by
  have z : ∀ x, 0 + x = x := Nat.zero_add
  obtain ⟨p1, p2, p3, p4, p5, p6, p7, p8, p9⟩ := P
  simp only [z] at p1 p2 p3 p4 p8
  exact ⟨⟨L.2.1, ⟨fun i hi => ⟨L.2.2.2.2.1 i hi, (L.2.2.2.1.1 i hi).2⟩, fun q hq => ⟨L.2.2.2.2.2.1 q hq, (L.2.2.2.1.2 q hq).2⟩, fun q hq => ⟨(p1 q hq).2.1, (p1 q hq).2.2.1⟩, p4.2.1, p4.2.2⟩, fun q hq => ⟨(L.2.2.2.2.2.2 q hq).2.1, (L.2.2.2.2.2.2 q hq).2.2⟩, L.2.2.1.2.1, L.2.2.1.2.2, p8.2.1, p8.2.2, p2.2.1, p2.2.2⟩, fun q hq => ⟨(p1 q hq).2.2.2.2.1, (p1 q hq).2.2.2.2.2⟩⟩
/-! guards -/
theorem i10 {α : Sort _} {a b : α} : (if (1 : Int32) = 0 then a else b) = b := if_neg (by decide)
theorem i00 {α : Sort _} {a b : α} : (if (0 : Int32) = 0 then a else b) = a := if_pos rfl
theorem si_eq {σ : gS} {k j : Nat} {v : Int32} : (g_si σ k j v).1 k j = v := by rw [si1, if_pos ⟨rfl, rfl⟩]
theorem si_nj {σ : gS} {k j b : Nat} {v : Int32} (h : b ≠ j) : (g_si σ k j v).1 k b = σ.1 k b := by rw [si1, if_neg (fun z => h z.2)]
theorem updN_eq {f : Nat → Nat} {k v : Nat} : updN f k v k = v := if_pos rfl
theorem updN_ne {f : Nat → Nat} {k v j : Nat} (h : j ≠ k) : updN f k v j = f j := if_neg h
theorem rng2 (v : Int32) (lo hi : Nat) (h : hi < 2 ^ 31) (hl : lo ≤ hi) : (∃ k, lo ≤ k ∧ k ≤ hi ∧ v = nI k) ∨ ((v < nI lo ∨ nI hi < v) ∧ ¬ (nI lo ≤ v ∧ v ≤ nI hi)) := by
  rcases i32c v with q | ⟨j, hj, rfl⟩
  · exact Or.inr ⟨Or.inl (neg_lt q (by omega)), fun z => neg_nle q (by omega) z.1⟩
  · by_cases h1 : lo ≤ j
    · by_cases h2 : j ≤ hi
      · exact Or.inl ⟨j, h1, h2, rfl⟩
      · exact Or.inr ⟨Or.inr ((nI_ltI h hj).mpr (by omega)), fun z => h2 ((nI_leI hj h).mp z.2)⟩
    · exact Or.inr ⟨Or.inl ((nI_ltI hj (by omega)).mpr (by omega)), fun z => h1 ((nI_leI (by omega) hj).mp z.1)⟩
theorem in_y {lo hi k : Nat} {s : gS} (h1 : lo ≤ k) (h2 : k ≤ hi) (h : hi < 2 ^ 31) : f_X10_in (nI k).toInt64 (lN lo) (lN hi) s = some (some (.int 1), s) := by
  rw [in_i _ _ _ (by omega) h, if_pos ⟨nI_le h1 (by omega), nI_le h2 h⟩]
theorem in_n {lo hi : Nat} {v : Int32} {s : gS} (h : hi < 2 ^ 31) (hl : lo ≤ hi) (hv : ¬ (nI lo ≤ v ∧ v ≤ nI hi)) : f_X10_in v.toInt64 (lN lo) (lN hi) s = some (some (.int 0), s) := by
  rw [in_i _ _ _ (by omega) h, if_neg hv]
/-- the class's guard of a range -/
theorem grd_y {α : Sort _} {lo hi k : Nat} {a b d : α} (h1 : lo ≤ k) (h2 : k ≤ hi) (h : hi < 2 ^ 31) : (if nI k < nI lo then a else if nI hi < nI k then b else d) = d := by
  rw [if_neg (by rw [nI_ltI (by omega) (by omega)]; omega), if_neg (by rw [nI_ltI (by omega) (by omega)]; omega)]
theorem grd_n {α : Sort _} {lo hi : Nat} {v : Int32} {a d : α} (hv : v < nI lo ∨ nI hi < v) : (if v < nI lo then a else if nI hi < v then a else d) = a := by
  by_cases q : v < nI lo
  · rw [if_pos q]
  · rw [if_neg q, if_pos (hv.resolve_left q)]
theorem isPar_c {p : Nat} {s : gS} (hp : p < 2) : f_X9_isParish (nI p) s = some (some (.int 1), s) := by
  unfold f_X9_isParish
  rcases (show p = 0 ∨ p = 1 by omega) with rfl | rfl
  · rw [if_pos (by decide)]
  · rw [if_neg (by decide), if_pos (by decide)]
theorem isPar_cn {v : Int32} {s : gS} (hv : ¬ (nI 0 ≤ v ∧ v ≤ nI 1)) : f_X9_isParish v s = some (some (.int 0), s) := by
  unfold f_X9_isParish
  rw [if_neg (fun e => hv (by rw [e]; decide)), if_neg (fun e => hv (by rw [e]; decide))]
theorem isPar_m {p : Nat} {s : gS} (hp : p < 2) : f_X10_isParish (nI p) s = some (some (.int 1), s) := by
  unfold f_X10_isParish
  rw [c64_0, c64_1, in_y (by omega) (by omega) (by omega), gb_i]; rfl
theorem isPar_mn {v : Int32} {s : gS} (hv : ¬ (nI 0 ≤ v ∧ v ≤ nI 1)) : f_X10_isParish v s = some (some (.int 0), s) := by
  unfold f_X10_isParish
  rw [c64_0, c64_1, in_n (by omega) (by omega) hv, gb_i]; rfl
theorem isClo_c {k : Nat} {s : gS} (h1 : 1 ≤ k) (h2 : k ≤ 9) : f_X9_isClover (nI k) s = some (some (.int 1), s) := by
  unfold f_X9_isClover
  exact grd_y (lo := 1) (hi := 9) h1 h2 (by omega)
theorem isClo_cn {v : Int32} {s : gS} (hv : v < nI 1 ∨ nI 9 < v) : f_X9_isClover v s = some (some (.int 0), s) := by
  unfold f_X9_isClover
  exact grd_n hv
theorem isHr_c {k : Nat} {s : gS} (h2 : k ≤ 12) : f_X9_isHourOn (nI k) s = some (some (.int 1), s) := by
  unfold f_X9_isHourOn
  exact grd_y (lo := 0) (hi := 12) (Nat.zero_le _) h2 (by omega)
theorem isHr_cn {v : Int32} {s : gS} (hv : v < nI 0 ∨ nI 12 < v) : f_X9_isHourOn v s = some (some (.int 0), s) := by
  unfold f_X9_isHourOn
  exact grd_n hv
theorem isSum_c {k : Nat} {s : gS} (h2 : k ≤ 9999) : f_X9_isSum (nI k) s = some (some (.int 1), s) := by
  unfold f_X9_isSum
  exact grd_y (lo := 0) (hi := 9999) (Nat.zero_le _) h2 (by omega)
theorem isSum_cn {v : Int32} {s : gS} (hv : v < nI 0 ∨ nI 9999 < v) : f_X9_isSum v s = some (some (.int 0), s) := by
  unfold f_X9_isSum
  exact grd_n hv
theorem isImg_c {p : Nat} {s : gS} (hp : p < 2) : f_X9_isImage (nI p) s = some (some (.int 1), s) := by
  unfold f_X9_isImage
  rcases (show p = 0 ∨ p = 1 by omega) with rfl | rfl
  · rw [if_pos (by decide)]
  · rw [if_neg (by decide), if_pos (by decide)]
theorem isImg_cn {v : Int32} {s : gS} (hv : ¬ (nI 0 ≤ v ∧ v ≤ nI 1)) : f_X9_isImage v s = some (some (.int 0), s) := by
  unfold f_X9_isImage
  rw [if_neg (fun e => hv (by rw [e]; decide)), if_neg (fun e => hv (by rw [e]; decide))]
/-- a cell by its place: the class's number, the reference's -/
theorem cell_m {m : gS} {w h q : Nat} (M : Md m w h) (hq : q < w * h) : m.1 0 3 * nI (q / w) + nI (q % w) = nI q := by
  rw [M.2.1, pk_mul, nI_add, Nat.div_add_mod]
theorem n0_c {w h : Nat} (hn : w * h < 2 ^ 31) : (nI (w * h) = 0) = (w * h = 0) := by
  rw [c32_0]; exact propext (nI_eq hn (by omega))
