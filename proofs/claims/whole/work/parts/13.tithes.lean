/-! Borders and tithes -/
def isW (law w q b : Nat) : Bool := if law = 0 then decide (q % w < b % w ∨ (q % w = b % w ∧ q / w < b / w)) else if law = 1 then decide (q / w < b / w ∨ (q / w = b / w ∧ q % w < b % w)) else decide (q % w + q / w < b % w + b / w)
def tS (ti : Nat → Nat) (law w p b : Nat) : Nat → Nat
  | 0 => 0
  | q + 1 => tS ti law w p b q + (if isW law w q b = decide (p = 0) then ti q else 0)
theorem tS_le {ti : Nat → Nat} {law w p b n : Nat} (h : ∀ q, q < n → ti q ≤ 99) : ∀ q, q ≤ n → tS ti law w p b q ≤ 99 * q
  | 0, _ => Nat.le_refl _
  | q + 1, hq => by
    have h1 := tS_le (law := law) (w := w) (p := p) (b := b) h q (by omega)
    have h2 := h q (by omega)
    unfold tS
    split <;> omega
theorem isW_c {c : gS} {a w h q b law : Nat} (L : Ld c a w h) (hq : q < w * h) (hb : b < w * h) (hl : law < 3) : f_X3_isFirstParish a (nI q) (nI b) (nI law) c = some (some (.int (if isW law w q b then 1 else 0)), c) := by
  obtain ⟨h1, h2, h3, h4, h5⟩ := L.1.q hq
  obtain ⟨g1, g2, g3, g4, g5⟩ := L.1.q hb
  obtain ⟨e1, e2, -⟩ := L.2.2.2.2 q hq
  obtain ⟨d1, d2, -⟩ := L.2.2.2.2 b hb
  have hw := L.1.w
  have hh := L.1.h
  unfold f_X3_isFirstParish
  rw [has_in L hq, gb_i, if_neg (by decide), has_in L hb, gb_i, if_neg (by decide)]
  simp (disch := omega) only [g_ixn, nI_clamp, e1, e2, d1, d2, c32_0, c32_1, nI_eq, nI_ltI, nI_leI, nI_add]
  have hlaw : law = 0 ∨ law = 1 ∨ law = 2 := by omega
  rcases hlaw with rfl | rfl | rfl
  · simp only [isW, if_true]
    by_cases k1 : q % w < b % w
    · simp [k1]
    · by_cases k2 : q % w = b % w
      · by_cases k3 : b / w ≤ q / w
        · simp [k1, k2, k3] <;> omega
        · simp [k1, k2, k3] <;> omega
      · simp [k1, k2]
  · simp only [isW, Nat.one_ne_zero, if_false, if_true]
    by_cases k1 : q / w < b / w
    · simp [k1]
    · by_cases k2 : q / w = b / w
      · by_cases k3 : b % w ≤ q % w
        · simp [k1, k2, k3] <;> omega
        · simp [k1, k2, k3] <;> omega
      · simp [k1, k2]
  · simp only [isW, show ¬ (2 : Nat) = 0 by decide, show ¬ (2 : Nat) = 1 by decide, if_false]
    by_cases k1 : b % w + b / w ≤ q % w + q / w
    · rw [if_pos k1, if_neg (by simp; omega)]
    · rw [if_neg k1, if_pos (by simp; omega)]
theorem isW_m {m : gS} {w h q b law : Nat} (M : Md m w h) (hlaw : m.1 1 86 = nI law) (hq : q < w * h) (hb : b < w * h) (hl : law < 3) : f_X10_isWest (nI q) (nI b) m = some (some (.int (if isW law w q b then 1 else 0)), m) := by
  obtain ⟨h1, h2, h3, h4, h5⟩ := M.1.q hq
  obtain ⟨g1, g2, g3, g4, g5⟩ := M.1.q hb
  have hw := M.1.w
  have hh := M.1.h
  unfold f_X10_isWest
  have hw0 : ¬ nI w = 0 := nI_ne0 h2 (by omega)
  rw [M.2.1]
  simp only [if_neg hw0, g_leti]
  rw [remN (by omega) h2 (by omega), remN (by omega) h2 (by omega), pk_div (by omega) h2 (by omega), pk_div (by omega) h2 (by omega)]
  simp (disch := omega) only [c32_86, g_ixn, nI_clamp, hlaw, c32_0, c32_1, nI_eq, nI_ltI, nI_leI, nI_add]
  have hlw : law = 0 ∨ law = 1 ∨ law = 2 := by omega
  rcases hlw with rfl | rfl | rfl
  · simp only [isW, if_true]
    by_cases k1 : q % w < b % w
    · simp [k1]
    · by_cases k2 : q % w = b % w
      · by_cases k3 : b / w ≤ q / w
        · simp [k1, k2, k3] <;> omega
        · simp [k1, k2, k3] <;> omega
      · simp [k1, k2]
  · simp only [isW, Nat.one_ne_zero, if_false, if_true]
    by_cases k1 : q / w < b / w
    · simp [k1]
    · by_cases k2 : q / w = b / w
      · by_cases k3 : b % w ≤ q % w
        · simp [k1, k2, k3] <;> omega
        · simp [k1, k2, k3] <;> omega
      · simp [k1, k2]
  · simp only [isW, show ¬ (2 : Nat) = 0 by decide, show ¬ (2 : Nat) = 1 by decide, if_false]
    by_cases k1 : b % w + b / w ≤ q % w + q / w
    · rw [if_pos k1, if_neg (by simp; omega)]
    · rw [if_neg k1, if_pos (by simp; omega)]
theorem tithes_cl {c : gS} {a w h b law p : Nat} {ti : Nat → Nat} (L : Ld c a w h) (ht : ∀ q, q < w * h → c.1 (a + 5) q = nI (ti q) ∧ ti q ≤ 99) (hb : b < w * h) (hl : law < 3) (hp : p < 2) {k : Int32 → Int32 → gS → gR} : ∀ (n i : Nat), i ≤ w * h → w * h - i < n → f_X3_tithesOf_16 a (nI p) (nI b) (nI law) k n (nI (tS ti law w p b i)) (nI i) c = k (nI (tS ti law w p b (w * h))) (nI (w * h)) c := by
  intro n
  induction n with
  | zero => intro i _ h2; omega
  | succ n ih =>
    intro i h1 h2
    have hn := L.1.n
    rw [f_X3_tithesOf_16.eq_2, L.2.2.2.1]
    by_cases hi : w * h ≤ i
    · have e : i = w * h := by omega
      subst e
      rw [if_pos ((nI_leI (by omega) (by omega)).mpr (Nat.le_refl _))]
    · rw [if_neg (by rw [nI_leI (by omega) (by omega)]; omega), isW_c L (by omega) hb hl, gb_i]
      have hti := ht i (by omega)
      simp (disch := omega) only [g_ixn, g_leti, nI_clamp, hti.1, nI_add, nI_1]
      have hs : tS ti law w p b (i + 1) = tS ti law w p b i + (if isW law w i b = decide (p = 0) then ti i else 0) := rfl
      have hih := ih (i + 1) (by omega) (by omega)
      rcases (show p = 0 ∨ p = 1 by omega) with rfl | rfl
      · cases hw : isW law w i b
        · rw [hw] at hs
          simp only [decide_true, Bool.false_eq_true, if_false, Nat.add_zero] at hs
          rw [hs] at hih
          simpa [c32_0, show ¬ nI 0 = 1 by decide, nI_add] using hih
        · rw [hw] at hs
          simp only [decide_true, if_true] at hs
          rw [hs] at hih
          simpa [c32_0, show ¬ nI 0 = 1 by decide, nI_add] using hih
      · have h10 : ¬ nI 1 = 0 := by decide
        cases hw : isW law w i b
        · rw [hw] at hs
          simp only [Nat.one_ne_zero, decide_false, if_true] at hs
          rw [hs] at hih
          simpa [h10, nI_add] using hih
        · rw [hw] at hs
          simp only [Nat.one_ne_zero, decide_false, Bool.true_eq_false, if_false, Nat.add_zero] at hs
          rw [hs] at hih
          simpa [h10, nI_add] using hih
theorem tithes_c {c : gS} {a w h b law p : Nat} {ti : Nat → Nat} (L : Ld c a w h) (ht : ∀ q, q < w * h → c.1 (a + 5) q = nI (ti q) ∧ ti q ≤ 99) (hb : b < w * h) (hl : law < 3) (hp : p < 2) : f_X3_tithesOf a (nI p) (nI b) (nI law) c = some (some (.int (nI (tS ti law w p b (w * h)))), c) := by
  have hn := L.1.n
  unfold f_X3_tithesOf
  rw [has_in L hb, gb_i, if_neg (by decide)]
  exact tithes_cl L ht hb hl hp g_N 0 (Nat.zero_le _) (by unfold g_N; omega)
theorem tithes_ml {m : gS} {w h b law p : Nat} {ti : Nat → Nat} (M : Md m w h) (hlaw : m.1 1 86 = nI law) (ht : ∀ q, q < w * h → m.1 5 q = nI (ti q) ∧ ti q ≤ 99) (hb : b < w * h) (hl : law < 3) (hp : p < 2) {k : Int32 → Int32 → gS → gR} : ∀ (n i : Nat), i ≤ w * h → w * h - i < n → f_X10_tithesOf_5 (nI p) (nI b) k n (nI (tS ti law w p b i)) (nI i) m = k (nI (tS ti law w p b (w * h))) (nI (w * h)) m := by
  intro n
  induction n with
  | zero => intro i _ h2; omega
  | succ n ih =>
    intro i h1 h2
    have hn := M.1.n
    rw [f_X10_tithesOf_5.eq_2, cells_m M, gb_i]
    by_cases hi : w * h ≤ i
    · have e : i = w * h := by omega
      subst e
      rw [if_pos ((nI_leI (by omega) (by omega)).mpr (Nat.le_refl _))]
    · rw [if_neg (by rw [nI_leI (by omega) (by omega)]; omega), isW_m M hlaw (by omega) hb hl, gb_i]
      have hti := ht i (by omega)
      simp (disch := omega) only [g_ixn, g_leti, nI_clamp, hti.1, nI_add, nI_1]
      have hs : tS ti law w p b (i + 1) = tS ti law w p b i + (if isW law w i b = decide (p = 0) then ti i else 0) := rfl
      have hih := ih (i + 1) (by omega) (by omega)
      rcases (show p = 0 ∨ p = 1 by omega) with rfl | rfl
      · cases hw : isW law w i b
        · rw [hw] at hs
          simp only [decide_true, Bool.false_eq_true, if_false, Nat.add_zero] at hs
          rw [hs] at hih
          simpa [c32_0, show ¬ nI 0 = 1 by decide, nI_add] using hih
        · rw [hw] at hs
          simp only [decide_true, if_true] at hs
          rw [hs] at hih
          simpa [c32_0, show ¬ nI 0 = 1 by decide, nI_add] using hih
      · have h10 : ¬ nI 1 = 0 := by decide
        cases hw : isW law w i b
        · rw [hw] at hs
          simp only [Nat.one_ne_zero, decide_false, if_true] at hs
          rw [hs] at hih
          simpa [h10, nI_add] using hih
        · rw [hw] at hs
          simp only [Nat.one_ne_zero, decide_false, Bool.true_eq_false, if_false, Nat.add_zero] at hs
          rw [hs] at hih
          simpa [h10, nI_add] using hih
theorem tithes_m {m : gS} {w h b law p : Nat} {ti : Nat → Nat} (M : Md m w h) (hlaw : m.1 1 86 = nI law) (ht : ∀ q, q < w * h → m.1 5 q = nI (ti q) ∧ ti q ≤ 99) (hb : b < w * h) (hl : law < 3) (hp : p < 2) : f_X10_tithesOf (nI p) (nI b) m = some (some (.int (nI (tS ti law w p b (w * h)))), m) := by
  have hn := M.1.n
  unfold f_X10_tithesOf
  exact tithes_ml M hlaw ht hb hl hp g_N 0 (Nat.zero_le _) (by unfold g_N; omega)
