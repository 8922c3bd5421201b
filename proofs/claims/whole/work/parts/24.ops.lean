/-! Calls that read or write a field -/
theorem Rel.now {c c' m m' : gS} {w h hr : Nat} {l th ti : Nat → Nat} (L : LR c m w h hr l th ti) (I0 : IM c m (w * h) 0) (I1 : IM c m (w * h) 1) (S : SN c m (w * h)) (B : BK c m (w * h)) (T : TX c m) (E : c.1 3 10 = m.1 0 17) (hc : Sm [22, 23, 24] c c') (hm : ∀ k, k ≠ 1 → m'.1 k = m.1 k) (P : PX c' m' 22 1 0 (w * h)) : Rel c' m' := by
  have e : ∀ k, k ∉ [22, 23, 24] → c'.1 k = c.1 k := fun k hk => (hc k hk).1
  refine ⟨w, h, hr, l, th, ti, ?_, P, ?_, ?_, ?_, ?_, ?_, ?_⟩
  · obtain ⟨a1, a2, a3, a4, a5, a6, a7⟩ := L
    unfold Md at a2
    refine ⟨a1.congr (fun k x y => e k (by simp; omega)), ?_, ?_, a4.congr (fun k x y => e k (by simp; omega)), ?_, ?_, ?_⟩
    · unfold Md; rw [hm 0 (by decide)]; exact a2
    · rw [e 14 (by decide), hm 0 (by decide)]; exact a3
    · rw [hm 6 (by decide)]; exact a5
    · rw [hm 4 (by decide)]; exact a6
    · rw [e 19 (by decide), hm 5 (by decide)]; exact a7
  · unfold IM PX PR at *; rw [e (25 + 4 * 0) (by decide), e (26 + 4 * 0) (by decide), e (26 + 4 * 0 + 1) (by decide), e (26 + 4 * 0 + 2) (by decide), hm 3 (by decide), hm 2 (by decide)]; exact I0
  · unfold IM PX PR at *; rw [e (25 + 4 * 1) (by decide), e (26 + 4 * 1) (by decide), e (26 + 4 * 1 + 1) (by decide), e (26 + 4 * 1 + 2) (by decide), hm 3 (by decide), hm 2 (by decide)]; exact I1
  · unfold SN at *; rw [e 41 (by decide), e 42 (by decide), e 43 (by decide), hm 0 (by decide), hm 7 (by decide), hm 8 (by decide)]; exact S
  · unfold BK at *; rw [e 46 (by decide), e 47 (by decide), e 48 (by decide), hm 0 (by decide), hm 9 (by decide), hm 10 (by decide)]; exact B
  · unfold TX at *; rw [e 1 (by decide), e 2 (by decide), hm 0 (by decide), hm 11 (by decide)]; exact T
  · rw [e 3 (by decide), hm 0 (by decide)]; exact E
theorem PR.fl {c c' m m' : gS} {n law sd law' sd' : Nat} {gr fg : Nat → Nat} {wk noon lick wk' noon' lick' : Option Nat} (P : PR c m 22 1 0 n gr fg wk noon lick law sd) (hn : n ≤ 40) (h23 : c'.1 23 = c.1 23) (h24 : c'.1 24 = c.1 24) (hm : ∀ q, q < 80 → m'.1 1 q = m.1 1 q)
    (p2 : c'.1 22 3 = oI wk' ∧ m'.1 1 80 = oI wk' ∧ ∀ q, wk' = some q → q < n) (p3 : c'.1 22 4 = oI noon' ∧ m'.1 1 81 = oI noon' ∧ ∀ q, noon' = some q → q < n) (p4 : c'.1 22 5 = oI lick' ∧ m'.1 1 82 = oI lick' ∧ ∀ q, lick' = some q → q < n) (p5 : c'.1 22 6 = m'.1 1 83) (p6 : c'.1 22 7 = m'.1 1 84) (p7 : c'.1 22 8 = m'.1 1 85) (p8 : c'.1 22 9 = nI law' ∧ m'.1 1 86 = nI law' ∧ law' < 3) (p9 : c'.1 22 10 = nI sd' ∧ m'.1 1 87 = nI sd' ∧ sd' < 2 ^ 31 ∧ (wk' = none → n = 0)) : PR c' m' 22 1 0 n gr fg wk' noon' lick' law' sd' := by
  refine ⟨fun q hq => ?_, ?_, ?_, ?_, ?_, ?_, ?_, ?_, ?_⟩
  · rw [show (22 + 1 : Nat) = 23 from rfl, show (22 + 2 : Nat) = 24 from rfl, h23, h24, hm (0 + q) (by omega), hm (0 + (40 + q)) (by omega)]; exact P.1 q hq
  · simpa using p2
  · simpa using p3
  · simpa using p4
  · simpa using p5
  · simpa using p6
  · simpa using p7
  · simpa using p8
  · simpa using p9
theorem m82 {o : gR} {k : Nat} (hk : k < 88) : g_ix (nI k) 88 o = o := g_ixn hk (by omega)
theorem m82c {k : Nat} (hk : k < 88) : (nI k).toNatClampNeg = k := nI_clamp (by omega)
theorem op_fault {c m : gS} (R : Rel c m) : Ag (f_X9_fault c) (f_X10_fault m) := by
  obtain ⟨w, h, hr, l, th, ti, L, P, I0, I1, S, B, T, E⟩ := id R
  exact Ag.mk' rfl rfl E R
theorem op_law {c m : gS} (R : Rel c m) (v : Int32) : Ag (f_X9_law v c) (f_X10_law v m) := by
  obtain ⟨w, h, hr, l, th, ti, L, ⟨gr, fg, wk, noon, lick, law, sd, P⟩, I0, I1, S, B, T, E⟩ := id R
  have hn := L.1.1.n
  unfold f_X9_law f_X10_law
  rw [c64_0, show (2 : Int64) = lN 2 from rfl]
  rcases rng2 v 0 2 (by omega) (by omega) with ⟨k, h1, h2, rfl⟩ | ⟨h1, h2⟩
  · rw [if_neg (nI_n0 (by omega)), c32_2, if_pos (nI_le h2 (by omega)), in_y h1 h2 (by omega), gb_i, if_neg (by decide)]
    simp only [g_leti, g_let]
    rw [show (86 : Int32) = nI 86 from rfl, m82 (by omega), m82 (by omega), m82c (by omega)]
    refine Ag.mk' rfl rfl (by have := P.2.2.2.2.2.2.2.1; rw [this.1]; simpa using this.2.1.symm) (Rel.now L I0 I1 S B T E (Sm.si (by simp)) (fun k hk => sir hk) ⟨gr, fg, wk, noon, lick, k, sd, P.fl hn (sir (by decide)) (sir (by decide)) (fun q hq => by rw [si1, if_neg (by omega)]) ?_ ?_ ?_ ?_ ?_ ?_ ?_ ?_⟩)
    · simpa [si1] using P.2.1
    · simpa [si1] using P.2.2.1
    · simpa [si1] using P.2.2.2.1
    · simpa [si1] using P.2.2.2.2.1
    · simpa [si1] using P.2.2.2.2.2.1
    · simpa [si1] using P.2.2.2.2.2.2.1
    · exact ⟨by simp [si1], by simp [si1], by omega⟩
    · simpa [si1] using P.2.2.2.2.2.2.2.2
  · rw [in_n (by omega) (by omega) h2, gb_i, if_pos rfl]
    by_cases q : v < 0
    · rw [if_pos q]; exact Ag.mk' rfl rfl rfl R
    · rw [if_neg q, if_neg]
      · exact Ag.mk' rfl rfl rfl R
      · intro q2
        exact h2 ⟨Int32.not_lt.mp q, q2⟩
theorem op_seed {c m : gS} (R : Rel c m) (v : Int32) : Ag (f_X9_seed v c) (f_X10_seed v m) := by
  obtain ⟨w, h, hr, l, th, ti, L, ⟨gr, fg, wk, noon, lick, law, sd, P⟩, I0, I1, S, B, T, E⟩ := id R
  have hn := L.1.1.n
  unfold f_X9_seed f_X10_seed
  rcases i32c v with q | ⟨k, hk, rfl⟩
  · have hv : ¬ (0 : Int32) ≤ v := Int32.not_le.mpr q
    rw [if_neg hv, if_neg hv]
    exact Ag.mk' rfl rfl rfl R
  · have hv : (0 : Int32) ≤ nI k := nI_pos' hk
    rw [if_pos hv, if_pos hv]
    simp only [g_leti, g_let]
    rw [show (87 : Int32) = nI 87 from rfl, m82 (by omega), m82 (by omega), m82c (by omega)]
    refine Ag.mk' rfl rfl (by have := P.2.2.2.2.2.2.2.2; rw [this.1]; simpa using this.2.1.symm) (Rel.now L I0 I1 S B T E (Sm.si (by simp)) (fun k hk => sir hk) ⟨gr, fg, wk, noon, lick, law, k, P.fl hn (sir (by decide)) (sir (by decide)) (fun q hq => by rw [si1, if_neg (by omega)]) ?_ ?_ ?_ ?_ ?_ ?_ ?_ ?_⟩)
    · simpa [si1] using P.2.1
    · simpa [si1] using P.2.2.1
    · simpa [si1] using P.2.2.2.1
    · simpa [si1] using P.2.2.2.2.1
    · simpa [si1] using P.2.2.2.2.2.1
    · simpa [si1] using P.2.2.2.2.2.2.1
    · simpa [si1] using P.2.2.2.2.2.2.2.1
    · exact ⟨by simp [si1], by simp [si1], hk, P.2.2.2.2.2.2.2.2.2.2.2⟩
def plI (w : Nat) : Option Nat → Int32
  | none => -1
  | some q => nI (10 * (q % w) + q / w)
theorem place_c {c : gS} {w h : Nat} {o : Option Nat} (L : Ld c 14 w h) (ho : ∀ q, o = some q → q < w * h) : f_X3_placeOf 14 (oI o) c = some (some (.int (plI w o)), c) := by
  cases o with
  | none => exact placeOf_no
  | some q => exact placeOf_in L (ho q rfl)
theorem named_m {m : gS} {w h : Nat} {o : Option Nat} (M : Md m w h) (ho : ∀ q, o = some q → q < w * h) : f_X10_named (oI o) m = some (some (.int (plI w o)), m) := by
  cases o with
  | none => exact named_no
  | some q => exact named_in M (ho q rfl)
theorem op_lead {c m : gS} (R : Rel c m) (x y : Int32) : Ag (f_X9_lead x y c) (f_X10_lead x y m) := by
  obtain ⟨w, h, hr, l, th, ti, L, ⟨gr, fg, wk, noon, lick, law, sd, P⟩, I0, I1, S, B, T, E⟩ := id R
  have hn := L.1.1.n
  unfold f_X9_lead f_X10_lead
  by_cases hin : inR w h x y
  · obtain ⟨q, hq, rfl, rfl⟩ := hin
    have e1 : c.1 22 3 = oI wk := P.2.1.1
    have e2 : m.1 1 80 = oI wk := by simpa using P.2.1.2.1
    rw [cellAt_in L.1 hq, gb_i, has_in L.1 hq, gb_i, if_neg (by decide), e1, place_c L.1 P.2.1.2.2, gb_i, isCell_in L.2.1 hq, gb_i, if_neg (by decide), show (80 : Int32) = nI 80 from rfl, m82 (by omega), m82c (by omega), e2, named_m L.2.1 P.2.1.2.2, gb_i, m82 (by omega), cell_m L.2.1 hq]
    simp only [g_let]
    refine Ag.mk' rfl rfl rfl (Rel.now L I0 I1 S B T E (Sm.si (by simp)) (fun k hk => sir hk) ⟨gr, fg, some q, noon, lick, law, sd, P.fl hn (sir (by decide)) (sir (by decide)) (fun q hq => by rw [si1, if_neg (by omega)]) ?_ ?_ ?_ ?_ ?_ ?_ ?_ ?_⟩)
    · exact ⟨by simp [si1, oI], by simp [si1, oI], fun j hj => by cases hj; exact hq⟩
    · simpa [si1] using P.2.2.1
    · simpa [si1] using P.2.2.2.1
    · simpa [si1] using P.2.2.2.2.1
    · simpa [si1] using P.2.2.2.2.2.1
    · simpa [si1] using P.2.2.2.2.2.2.1
    · simpa [si1] using P.2.2.2.2.2.2.2.1
    · exact ⟨by simpa [si1] using P.2.2.2.2.2.2.2.2.1, by simpa [si1] using P.2.2.2.2.2.2.2.2.2.1, P.2.2.2.2.2.2.2.2.2.2.1, fun z => by cases z⟩
  · rw [cellAt_out L.1 hin, gb_i, has_no, gb_i, if_pos rfl, isCell_out L.2.1 hin, gb_i, if_pos rfl]
    exact Ag.mk' rfl rfl rfl R
theorem op_lick {c m : gS} (R : Rel c m) (x y : Int32) : Ag (f_X9_lick x y c) (f_X10_lick x y m) := by
  obtain ⟨w, h, hr, l, th, ti, L, ⟨gr, fg, wk, noon, lick, law, sd, P⟩, I0, I1, S, B, T, E⟩ := id R
  have hn := L.1.1.n
  unfold f_X9_lick f_X10_lick
  by_cases hin : inR w h x y
  · obtain ⟨q, hq, rfl, rfl⟩ := hin
    have e1 : c.1 22 5 = oI lick := P.2.2.2.1.1
    have e2 : m.1 1 82 = oI lick := by simpa using P.2.2.2.1.2.1
    rw [cellAt_in L.1 hq, gb_i, has_in L.1 hq, gb_i, if_neg (by decide), e1, place_c L.1 P.2.2.2.1.2.2, gb_i, isCell_in L.2.1 hq, gb_i, if_neg (by decide), show (82 : Int32) = nI 82 from rfl, m82 (by omega), m82c (by omega), e2, named_m L.2.1 P.2.2.2.1.2.2, gb_i, m82 (by omega), cell_m L.2.1 hq]
    simp only [g_let]
    refine Ag.mk' rfl rfl rfl (Rel.now L I0 I1 S B T E (Sm.si (by simp)) (fun k hk => sir hk) ⟨gr, fg, wk, noon, some q, law, sd, P.fl hn (sir (by decide)) (sir (by decide)) (fun q hq => by rw [si1, if_neg (by omega)]) ?_ ?_ ?_ ?_ ?_ ?_ ?_ ?_⟩)
    · simpa [si1] using P.2.1
    · simpa [si1] using P.2.2.1
    · exact ⟨by simp [si1, oI], by simp [si1, oI], fun j hj => by cases hj; exact hq⟩
    · simpa [si1] using P.2.2.2.2.1
    · simpa [si1] using P.2.2.2.2.2.1
    · simpa [si1] using P.2.2.2.2.2.2.1
    · simpa [si1] using P.2.2.2.2.2.2.2.1
    · simpa [si1] using P.2.2.2.2.2.2.2.2
  · rw [cellAt_out L.1 hin, gb_i, has_no, gb_i, if_pos rfl, isCell_out L.2.1 hin, gb_i, if_pos rfl]
    exact Ag.mk' rfl rfl rfl R
theorem op_told {c m : gS} (R : Rel c m) (v : Int32) : Ag (f_X9_told v c) (f_X10_told v m) := by
  obtain ⟨w, h, hr, l, th, ti, L, ⟨gr, fg, wk, noon, lick, law, sd, P⟩, I0, I1, S, B, T, E⟩ := id R
  have e5 : m.1 1 80 = oI wk := by simpa using P.2.1.2.1
  have e6 : m.1 1 81 = oI noon := by simpa using P.2.2.1.2.1
  have e7 : m.1 1 82 = oI lick := by simpa using P.2.2.2.1.2.1
  have e9 : c.1 22 6 = m.1 1 83 := by simpa using P.2.2.2.2.1
  have e10 : c.1 22 7 = m.1 1 84 := by simpa using P.2.2.2.2.2.1
  have e8 : c.1 22 8 = m.1 1 85 := by simpa using P.2.2.2.2.2.2.1
  have e3 : m.1 1 86 = nI law := by simpa using P.2.2.2.2.2.2.2.1.2.1
  obtain ⟨ns, s1, s2, s3, -⟩ := S
  obtain ⟨nb, b1, b2, b3, -⟩ := B
  obtain ⟨len, t1, t2, t3, -⟩ := T
  unfold f_X9_told f_X10_told
  by_cases h0 : v = 0
  · rw [if_pos h0, if_pos h0]; exact Ag.mk' rfl rfl (by rw [L.1.2.1, L.2.1.2.1]) R
  rw [if_neg h0, if_neg h0]
  by_cases h1 : v = 1
  · rw [if_pos h1, if_pos h1]; exact Ag.mk' rfl rfl (by rw [L.1.2.2.1, L.2.1.2.2]) R
  rw [if_neg h1, if_neg h1]
  by_cases h2 : v = 2
  · rw [if_pos h2, if_pos h2]; exact Ag.mk' rfl rfl (by rw [t2, t3]) R
  rw [if_neg h2, if_neg h2]
  by_cases h3 : v = 3
  · rw [if_pos h3, if_pos h3, show (86 : Int32) = nI 86 from rfl, m82 (by omega), m82c (by omega)]; exact Ag.mk' rfl rfl (by rw [P.2.2.2.2.2.2.2.1.1, e3]) R
  rw [if_neg h3, if_neg h3]
  by_cases h4 : v = 4
  · rw [if_pos h4, if_pos h4]; exact Ag.mk' rfl rfl (by rw [L.2.2.1.1, L.2.2.1.2.1]) R
  rw [if_neg h4, if_neg h4]
  by_cases h5 : v = 5
  · rw [if_pos h5, if_pos h5, show (80 : Int32) = nI 80 from rfl, m82 (by omega), m82c (by omega), P.2.1.1, e5, place_c L.1 P.2.1.2.2, gb_i, named_m L.2.1 P.2.1.2.2, gb_i]; exact Ag.mk' rfl rfl rfl R
  rw [if_neg h5, if_neg h5]
  by_cases h6 : v = 6
  · rw [if_pos h6, if_pos h6, show (81 : Int32) = nI 81 from rfl, m82 (by omega), m82c (by omega), P.2.2.1.1, e6, place_c L.1 P.2.2.1.2.2, gb_i, named_m L.2.1 P.2.2.1.2.2, gb_i]; exact Ag.mk' rfl rfl rfl R
  rw [if_neg h6, if_neg h6]
  by_cases h7 : v = 7
  · rw [if_pos h7, if_pos h7, show (82 : Int32) = nI 82 from rfl, m82 (by omega), m82c (by omega), P.2.2.2.1.1, e7, place_c L.1 P.2.2.2.1.2.2, gb_i, named_m L.2.1 P.2.2.2.1.2.2, gb_i]; exact Ag.mk' rfl rfl rfl R
  rw [if_neg h7, if_neg h7]
  by_cases h8 : v = 8
  · rw [if_pos h8, if_pos h8, show (85 : Int32) = nI 85 from rfl, m82 (by omega), m82c (by omega)]; exact Ag.mk' rfl rfl e8 R
  rw [if_neg h8, if_neg h8]
  by_cases h9 : v = 9
  · rw [if_pos h9, if_pos h9, show (83 : Int32) = nI 83 from rfl, m82 (by omega), m82c (by omega)]; exact Ag.mk' rfl rfl e9 R
  rw [if_neg h9, if_neg h9]
  by_cases h10 : v = 10
  · rw [if_pos h10, if_pos h10, show (84 : Int32) = nI 84 from rfl, m82 (by omega), m82c (by omega)]; exact Ag.mk' rfl rfl e10 R
  rw [if_neg h10, if_neg h10]
  by_cases h11 : v = 11
  · rw [if_pos h11, if_pos h11]; exact Ag.mk' rfl rfl (by rw [s2, s3]) R
  rw [if_neg h11, if_neg h11]
  by_cases h12 : v = 12
  · rw [if_pos h12, if_pos h12]; exact Ag.mk' rfl rfl (by rw [b2, b3]) R
  rw [if_neg h12, if_neg h12]
  exact Ag.mk' rfl rfl rfl R
