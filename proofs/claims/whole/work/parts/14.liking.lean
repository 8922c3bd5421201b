/-! Ways of the reference; likings -/
theorem way_sub {w q : Nat} (h0 : 0 < w) (h1 : 0 < q / w) : w ≤ q ∧ (q - w) % w = q % w ∧ (q - w) / w = q / w - 1 := by
  have h2 : w ≤ q := by
    rcases Nat.lt_or_ge q w with h | h
    · rw [Nat.div_eq_of_lt h] at h1; omega
    · exact h
  have e : q = (q - w) + w := by omega
  have e1 : q % w = (q - w) % w := by conv => lhs; rw [e, Nat.add_mod_right]
  have e2 : q / w = (q - w) / w + 1 := by conv => lhs; rw [e, Nat.add_div_right _ h0]
  exact ⟨h2, e1.symm, by omega⟩
theorem way_add {w q : Nat} (h0 : 0 < w) : (q + w) % w = q % w ∧ (q + w) / w = q / w + 1 := ⟨Nat.add_mod_right q w, Nat.add_div_right q h0⟩
theorem way_r {w q : Nat} (h0 : 0 < w) (h1 : q % w + 1 < w) : (q + 1) % w = q % w + 1 ∧ (q + 1) / w = q / w := by
  have e := Nat.div_add_mod q w
  have e2 : q + 1 = w * (q / w) + (q % w + 1) := by omega
  refine ⟨?_, ?_⟩
  · rw [e2, Nat.mul_add_mod]; exact Nat.mod_eq_of_lt h1
  · rw [e2, Nat.mul_add_div h0, Nat.div_eq_of_lt h1]; simp [Nat.mul_add_div h0, Nat.div_eq_of_lt (Nat.mod_lt q h0)]
theorem way_l {w q : Nat} (h0 : 0 < w) (h1 : 0 < q % w) : (q - 1) % w = q % w - 1 ∧ (q - 1) / w = q / w := by
  have e := Nat.div_add_mod q w
  have hm := Nat.mod_lt q h0
  have e2 : q - 1 = w * (q / w) + (q % w - 1) := by omega
  have h2 : q % w - 1 < w := by omega
  refine ⟨?_, ?_⟩
  · rw [e2, Nat.mul_add_mod]; exact Nat.mod_eq_of_lt h2
  · rw [e2, Nat.mul_add_div h0, Nat.div_eq_of_lt h2]; simp [Nat.mul_add_div h0, Nat.div_eq_of_lt hm]
theorem wayS_lt {w h q s t : Nat} (d : Dm w h) (hq : q < w * h) (ht : wayS w h q s = some t) (hs : s < 5) : t < w * h := by
  have h1 := (way_len d hq).2.2 t
  apply h1
  unfold wayL
  exact List.mem_filterMap.mpr ⟨s, by have : s = 0 ∨ s = 1 ∨ s = 2 ∨ s = 3 ∨ s = 4 := by omega
                                      rcases this with rfl | rfl | rfl | rfl | rfl <;> simp, ht⟩
theorem out_x {w h : Nat} {y : Int32} (d : Dm w h) : ¬ inR w h (-1) y := by
  rintro ⟨q, hq, e, -⟩
  obtain ⟨h1, h2, h3, h4, h5⟩ := d.q hq
  have := d.w
  exact nI_m1 (by omega) e.symm
theorem out_y {w h : Nat} {x : Int32} (d : Dm w h) : ¬ inR w h x (-1) := by
  rintro ⟨q, hq, -, e⟩
  obtain ⟨h1, h2, h3, h4, h5⟩ := d.q hq
  have := d.h
  exact nI_m1 (by omega) e.symm
theorem out_xk {w h k : Nat} {y : Int32} (d : Dm w h) (hk : w ≤ k) (hk2 : k < 2 ^ 31) : ¬ inR w h (nI k) y := by
  rintro ⟨q, hq, e, -⟩
  obtain ⟨h1, h2, h3, h4, h5⟩ := d.q hq
  have := d.w
  rw [nI_eq hk2 (by omega)] at e
  omega
theorem out_yk {w h k : Nat} {x : Int32} (d : Dm w h) (hk : h ≤ k) (hk2 : k < 2 ^ 31) : ¬ inR w h x (nI k) := by
  rintro ⟨q, hq, -, e⟩
  obtain ⟨h1, h2, h3, h4, h5⟩ := d.q hq
  have := d.h
  rw [nI_eq hk2 (by omega)] at e
  omega
theorem nI_pm {n : Nat} (h : 0 < n) : nI n + (-1) = nI (n - 1) := by
  obtain ⟨k, rfl⟩ : ∃ k, n = k + 1 := ⟨n - 1, by omega⟩
  exact pk_m1 k
theorem nI_zm : nI 0 + (-1) = -1 := by decide
theorem way_fi {m : gS} {w h t : Nat} {X Y : Int32} (M : Md m w h) (ht : t < w * h) (hX : X = nI (t % w)) (hY : Y = nI (t / w)) : g_bind (f_X10_isCell X Y m) (g_ki (fun r s => if r = 0 then some (some (.int (-1)), s) else some (some (.int (s.1 0 3 * Y + X)), s))) = some (some (.int (nI t)), m) := by
  subst hX
  subst hY
  rw [isCell_in M ht, gb_i, if_neg (by decide), M.2.1, pk_mul, nI_add, Nat.div_add_mod]
theorem way_fo {m : gS} {w h : Nat} {X Y : Int32} (M : Md m w h) (hX : ¬ inR w h X Y) : g_bind (f_X10_isCell X Y m) (g_ki (fun r s => if r = 0 then some (some (.int (-1)), s) else some (some (.int (s.1 0 3 * Y + X)), s))) = some (some (.int (-1)), m) := by
  rw [isCell_out M hX, gb_i, if_pos rfl]
theorem nI_a0 (n : Nat) : nI n + 0 = nI n := by rw [c32_0, nI_add, Nat.add_zero]
theorem way_m0 {m : gS} {w h q : Nat} (M : Md m w h) (hq : q < w * h) : f_X10_way (nI q) (nI 0) m = some (some (.int (oI (wayS w h q 0))), m) := by
  obtain ⟨h1, h2, h3, h4, h5⟩ := M.1.q hq
  have hw := M.1.w
  have hh := M.1.h
  have hw0 : ¬ nI w = 0 := nI_ne0 h2 (by omega)
  unfold f_X10_way
  rw [M.2.1, if_neg hw0]
  rw [if_neg (show ¬ nI 0 = 2 by decide), if_neg (show ¬ nI 0 = 4 by decide), g_leti, if_neg hw0, if_neg (show ¬ nI 0 = 1 by decide), if_neg (show ¬ nI 0 = 3 by decide), g_leti, remN (by omega) h2 (by omega), pk_div (by omega) h2 (by omega)]
  rw [way_fi M hq (nI_a0 _) (nI_a0 _)]
  rfl
theorem way_m1 {m : gS} {w h q : Nat} (M : Md m w h) (hq : q < w * h) : f_X10_way (nI q) (nI 1) m = some (some (.int (oI (wayS w h q 1))), m) := by
  obtain ⟨h1, h2, h3, h4, h5⟩ := M.1.q hq
  have hw := M.1.w
  have hh := M.1.h
  have hw0 : ¬ nI w = 0 := nI_ne0 h2 (by omega)
  unfold f_X10_way
  rw [M.2.1, if_neg hw0]
  rw [if_neg (show ¬ nI 1 = 2 by decide), if_neg (show ¬ nI 1 = 4 by decide), g_leti, if_neg hw0, if_pos (show nI 1 = 1 by decide), g_leti, remN (by omega) h2 (by omega), pk_div (by omega) h2 (by omega)]
  by_cases hy : 0 < q / w
  · obtain ⟨g1, g2, g3⟩ := way_sub h2 hy
    rw [way_fi M (show q - w < w * h by omega) (by rw [nI_a0, g2]) (by rw [nI_pm hy, g3])]
    simp [wayS, hy, oI]
  · have e0 : q / w = 0 := Nat.eq_zero_of_not_pos hy
    rw [way_fo M (by rw [e0, nI_zm]; exact out_y M.1)]
    simp [wayS, oI, e0]
theorem way_m2 {m : gS} {w h q : Nat} (M : Md m w h) (hq : q < w * h) : f_X10_way (nI q) (nI 2) m = some (some (.int (oI (wayS w h q 2))), m) := by
  obtain ⟨h1, h2, h3, h4, h5⟩ := M.1.q hq
  have hw := M.1.w
  have hh := M.1.h
  have hw0 : ¬ nI w = 0 := nI_ne0 h2 (by omega)
  unfold f_X10_way
  rw [M.2.1, if_neg hw0]
  rw [if_pos (show nI 2 = 2 by decide), g_leti, if_neg hw0, if_neg (show ¬ nI 2 = 1 by decide), if_neg (show ¬ nI 2 = 3 by decide), g_leti, remN (by omega) h2 (by omega), pk_div (by omega) h2 (by omega)]
  by_cases hy : q % w + 1 < w
  · obtain ⟨g2, g3⟩ := way_r h2 hy
    have ht : q + 1 < w * h := by
      have := inR_mk (w := w) (h := h) (i := q % w + 1) (j := q / w) hy h4
      omega
    rw [way_fi M ht (by rw [nI_1, g2]) (by rw [nI_a0, g3])]
    simp [wayS, hy, oI]
  · rw [way_fo M (by rw [nI_1]; exact out_xk M.1 (by omega) (by omega))]
    simp [wayS, oI, hy]
theorem way_m3 {m : gS} {w h q : Nat} (M : Md m w h) (hq : q < w * h) : f_X10_way (nI q) (nI 3) m = some (some (.int (oI (wayS w h q 3))), m) := by
  obtain ⟨h1, h2, h3, h4, h5⟩ := M.1.q hq
  have hw := M.1.w
  have hh := M.1.h
  have hw0 : ¬ nI w = 0 := nI_ne0 h2 (by omega)
  unfold f_X10_way
  rw [M.2.1, if_neg hw0]
  rw [if_neg (show ¬ nI 3 = 2 by decide), if_neg (show ¬ nI 3 = 4 by decide), g_leti, if_neg hw0, if_neg (show ¬ nI 3 = 1 by decide), if_pos (show nI 3 = 3 by decide), g_leti, remN (by omega) h2 (by omega), pk_div (by omega) h2 (by omega)]
  by_cases hy : q / w + 1 < h
  · obtain ⟨g2, g3⟩ := way_add (q := q) h2
    have ht : q + w < w * h := by
      have := inR_mk (w := w) (h := h) (i := q % w) (j := q / w + 1) h3 hy
      have e : (q / w + 1) * w = q / w * w + w := Nat.succ_mul _ _
      omega
    rw [way_fi M ht (by rw [nI_a0, g2]) (by rw [nI_1, g3])]
    simp [wayS, hy, oI]
  · rw [way_fo M (by rw [nI_1]; exact out_yk M.1 (by omega) (by omega))]
    simp [wayS, oI, hy]
theorem way_m4 {m : gS} {w h q : Nat} (M : Md m w h) (hq : q < w * h) : f_X10_way (nI q) (nI 4) m = some (some (.int (oI (wayS w h q 4))), m) := by
  obtain ⟨h1, h2, h3, h4, h5⟩ := M.1.q hq
  have hw := M.1.w
  have hh := M.1.h
  have hw0 : ¬ nI w = 0 := nI_ne0 h2 (by omega)
  unfold f_X10_way
  rw [M.2.1, if_neg hw0]
  rw [if_neg (show ¬ nI 4 = 2 by decide), if_pos (show nI 4 = 4 by decide), g_leti, if_neg hw0, if_neg (show ¬ nI 4 = 1 by decide), if_neg (show ¬ nI 4 = 3 by decide), g_leti, remN (by omega) h2 (by omega), pk_div (by omega) h2 (by omega)]
  by_cases hy : 0 < q % w
  · obtain ⟨g2, g3⟩ := way_l h2 hy
    rw [way_fi M (show q - 1 < w * h by omega) (by rw [nI_pm hy, g2]) (by rw [nI_a0, g3])]
    simp [wayS, hy, oI]
  · have e0 : q % w = 0 := Nat.eq_zero_of_not_pos hy
    rw [way_fo M (by rw [e0, nI_zm]; exact out_x M.1)]
    simp [wayS, oI, e0]
theorem way_m {m : gS} {w h q s : Nat} (M : Md m w h) (hq : q < w * h) (hs : s < 5) : f_X10_way (nI q) (nI s) m = some (some (.int (oI (wayS w h q s))), m) := by
  have h55 : s = 0 ∨ s = 1 ∨ s = 2 ∨ s = 3 ∨ s = 4 := by omega
  rcases h55 with rfl | rfl | rfl | rfl | rfl
  · exact way_m0 M hq
  · exact way_m1 M hq
  · exact way_m2 M hq
  · exact way_m3 M hq
  · exact way_m4 M hq
/-- a liking without the lick -/
def lkN (l : Nat → Nat) (g t : Nat) : Nat := max 1 (1 + l 0 * g + t % 2 * l 1 + t / 2 % 2 * l 2 - t / 4 % 2 * l 3)
def lkF (l th gr : Nat → Nat) (lick : Option Nat) (q : Nat) : Nat := lkN l (gr q) (th q) + (if lick = some q then 20 else 0)
theorem lkN_le {l : Nat → Nat} {g t : Nat} (hl : ∀ i, i < 4 → l i ≤ 9) (hg : g ≤ 18) : 1 ≤ lkN l g t ∧ lkN l g t ≤ 181 := by
  have h0 := hl 0 (by omega)
  have h1 := hl 1 (by omega)
  have h2 := hl 2 (by omega)
  have e0 : l 0 * g ≤ 9 * 18 := Nat.mul_le_mul h0 hg
  have e1 : t % 2 * l 1 ≤ 1 * 9 := Nat.mul_le_mul (by omega) h1
  have e2 : t / 2 % 2 * l 2 ≤ 1 * 9 := Nat.mul_le_mul (by omega) h2
  unfold lkN
  omega
theorem lkF_le {l th gr : Nat → Nat} {lick : Option Nat} {q : Nat} (hl : ∀ i, i < 4 → l i ≤ 9) (hg : gr q ≤ 18) : 1 ≤ lkF l th gr lick q ∧ lkF l th gr lick q ≤ 201 := by
  have := lkN_le (t := th q) hl hg
  unfold lkF
  split <;> omega
theorem bits8 : ∀ t, t < 8 → ((nI t &&& 1 = 0) = (t % 2 = 0)) ∧ ((nI t &&& 2 = 0) = (t / 2 % 2 = 0)) ∧ ((nI t &&& 4 = 0) = (t / 4 % 2 = 0)) := by
  intro t ht
  have : t = 0 ∨ t = 1 ∨ t = 2 ∨ t = 3 ∨ t = 4 ∨ t = 5 ∨ t = 6 ∨ t = 7 := by omega
  rcases this with rfl | rfl | rfl | rfl | rfl | rfl | rfl | rfl <;> refine ⟨?_, ?_, ?_⟩ <;> exact propext (by decide)
theorem bits8m : ∀ t, t < 8 → (nI t >>> ((0 : Int32) &&& 31)) &&& 1 = nI (t % 2) ∧ (nI t >>> ((1 : Int32) &&& 31)) &&& 1 = nI (t / 2 % 2) ∧ (nI t >>> ((2 : Int32) &&& 31)) &&& 1 = nI (t / 4 % 2) := by decide +kernel
theorem mmax_sub {A B : Nat} (hA : A < 2 ^ 30) (hB : B < 2 ^ 30) : g_mmax 1 (nI A - nI B) = nI (max 1 (A - B)) := by
  unfold g_mmax
  by_cases h : B ≤ A
  · rw [pk_sub h, c32_1]
    by_cases h2 : 1 < A - B
    · rw [if_pos ((nI_ltI (by omega) (by omega)).mpr h2), Nat.max_eq_right (by omega)]
    · rw [if_neg (by rw [nI_ltI (by omega) (by omega)]; exact h2), Nat.max_eq_left (by omega)]
  · rw [if_neg, Nat.max_eq_left (by omega)]
    · rfl
    intro q
    have h1 := pk_sneg hB (show A < B by omega)
    rw [Int32.lt_iff_toInt_lt] at h1 q
    have e0 : (0 : Int32).toInt = 0 := by decide
    have e1 : (1 : Int32).toInt = 1 := by decide
    omega
theorem mmax_nI {A : Nat} (hA : A < 2 ^ 30) : g_mmax 1 (nI A) = nI (max 1 A) := by
  have := mmax_sub (A := A) (B := 0) hA (by omega)
  rwa [show nI A - nI 0 = nI A by rw [pk_sub (Nat.zero_le _), Nat.sub_zero], Nat.sub_zero] at this
/-- what is told of likings: the class's -/
def LkC (c : gS) (a n : Nat) (l th : Nat → Nat) : Prop := (∀ i, i < 4 → c.1 a (5 + i) = nI (l i) ∧ l i ≤ 9) ∧ ∀ q, q < n → c.1 (a + 4) q = nI (th q) ∧ th q < 8
def LkM (m : gS) (n : Nat) (l th gr : Nat → Nat) (lick : Option Nat) : Prop := (∀ i, i < 4 → (0 < n → m.1 6 i = nI (l i)) ∧ l i ≤ 9) ∧ (∀ q, q < n → m.1 4 q = nI (th q) ∧ th q < 8) ∧ (∀ q, q < n → m.1 1 q = nI (gr q) ∧ gr q ≤ 18) ∧ m.1 1 82 = oI lick ∧ ∀ k, lick = some k → k < n
theorem liking_c {c : gS} {a w h q g : Nat} {l th : Nat → Nat} {b : Bool} (L : Ld c a w h) (K : LkC c a (w * h) l th) (hq : q < w * h) (hg : g ≤ 18) : f_X3_liking a (nI q) (nI g) (if b then 1 else 0) c = some (some (.int (nI (lkN l g (th q) + (if b then 20 else 0)))), c) := by
  have hn := L.1.n
  obtain ⟨h1, h2, h3, h4, h5⟩ := L.1.q hq
  obtain ⟨k0, k0'⟩ := K.1 0 (by omega)
  obtain ⟨k1, k1'⟩ := K.1 1 (by omega)
  obtain ⟨k2, k2'⟩ := K.1 2 (by omega)
  obtain ⟨k3, k3'⟩ := K.1 3 (by omega)
  obtain ⟨t1, t2⟩ := K.2 q hq
  obtain ⟨b1, b2, b3⟩ := bits8 (th q) t2
  have e0 : l 0 * g ≤ 9 * 18 := Nat.mul_le_mul k0' hg
  unfold f_X3_liking
  rw [has_in L hq, gb_i, if_neg (by decide)]
  simp (disch := omega) only [g_leti, g_ixn, nI_clamp, t1, k0, k1, k2, k3, b1, b2, b3]
  rw [c32_1, pk_mul, nI_add]
  simp only [nI_add]
  have m0 : th q % 2 = 0 ∨ th q % 2 = 1 := by omega
  have m1 : th q / 2 % 2 = 0 ∨ th q / 2 % 2 = 1 := by omega
  have m2 : th q / 4 % 2 = 0 ∨ th q / 4 % 2 = 1 := by omega
  rw [← c32_1]
  rcases m0 with m0 | m0 <;> rcases m1 with m1 | m1 <;> rcases m2 with m2 | m2 <;> cases b <;>
    simp (disch := omega) only [m0, m1, m2, if_true, if_false, Nat.one_ne_zero, mmax_sub, mmax_nI, lkN, c32_0, c32_20, nI_add, Bool.false_eq_true, Nat.zero_mul, Nat.one_mul, Nat.add_zero, Nat.sub_zero, show ¬ (1 : Int32) = nI 0 by decide]
theorem sub_assoc32 (x y z : Int32) : x + (y - z) = x + y - z := by
  rw [Int32.sub_eq_add_neg, Int32.sub_eq_add_neg, Int32.add_assoc]
theorem one_le_sub {A B : Nat} (hA : A < 2 ^ 30) (hB : B < 2 ^ 30) : (1 ≤ nI A - nI B) = (B + 1 ≤ A) := by
  apply propext
  rw [Int32.le_iff_toInt_le, pk_sub_toInt hA hB]
  have e1 : (1 : Int32).toInt = 1 := by decide
  omega
theorem oI_eq {o : Option Nat} {q : Nat} (hq : q < 2 ^ 31) (ho : ∀ k, o = some k → k < 2 ^ 31) : (oI o = nI q) = (o = some q) := by
  apply propext
  cases o with
  | none =>
    simp only [oI, reduceCtorEq, iff_false]
    exact fun e => nI_m1 hq e.symm
  | some k =>
    simp only [oI, Option.some.injEq]
    exact nI_eq (ho k rfl) hq
theorem liking_m {m : gS} {n q : Nat} {l th gr : Nat → Nat} {lick : Option Nat} (K : LkM m n l th gr lick) (hn : n ≤ 40) (hq : q < n) : f_X10_liking (nI q) m = some (some (.int (nI (lkF l th gr lick q))), m) := by
  obtain ⟨k0, k0'⟩ := K.1 0 (by omega)
  replace k0 := k0 (by omega)
  obtain ⟨k1, k1'⟩ := K.1 1 (by omega)
  replace k1 := k1 (by omega)
  obtain ⟨k2, k2'⟩ := K.1 2 (by omega)
  replace k2 := k2 (by omega)
  obtain ⟨k3, k3'⟩ := K.1 3 (by omega)
  replace k3 := k3 (by omega)
  obtain ⟨t1, t2⟩ := K.2.1 q hq
  obtain ⟨g1, g2⟩ := K.2.2.1 q hq
  obtain ⟨b1, b2, b3⟩ := bits8m (th q) t2
  have e0 : l 0 * gr q ≤ 9 * 18 := Nat.mul_le_mul k0' g2
  have e1 : th q % 2 * l 1 ≤ 1 * 9 := Nat.mul_le_mul (by omega) k1'
  have e2 : th q / 2 % 2 * l 2 ≤ 1 * 9 := Nat.mul_le_mul (by omega) k2'
  have e3 : th q / 4 % 2 * l 3 ≤ 1 * 9 := Nat.mul_le_mul (by omega) k3'
  unfold f_X10_liking
  rw [show (0 : Int32) + nI q = nI q by rw [c32_0, nI_add, Nat.zero_add]]
  rw [show (82 : Int32) = nI 82 from rfl, show (0 : Int32).toNatClampNeg = 0 by decide, show (1 : Int32).toNatClampNeg = 1 by decide, show (2 : Int32).toNatClampNeg = 2 by decide, show (3 : Int32).toNatClampNeg = 3 by decide]
  have i0 : ∀ o : gR, g_ix 0 4 o = o := fun o => g_ixn (k := 0) (by omega) (by omega)
  have i1 : ∀ o : gR, g_ix 1 4 o = o := fun o => g_ixn (k := 1) (by omega) (by omega)
  have i2 : ∀ o : gR, g_ix 2 4 o = o := fun o => g_ixn (k := 2) (by omega) (by omega)
  have i3 : ∀ o : gR, g_ix 3 4 o = o := fun o => g_ixn (k := 3) (by omega) (by omega)
  simp (disch := omega) only [i0, i1, i2, i3, g_leti, g_ixn, nI_clamp, t1, k0, k1, k2, k3, g1, b1, b2, b3, K.2.2.2.1, pk_mul]
  have hk0 : (oI lick = nI q) = (lick = some q) := oI_eq (by omega) (fun k hk => by have := K.2.2.2.2 k hk; omega)
  have hv : (1 : Int32) + nI (l 0 * gr q) + (nI (th q % 2 * l 1) + nI (th q / 2 % 2 * l 2) - nI (th q / 4 % 2 * l 3)) = nI (1 + l 0 * gr q + (th q % 2 * l 1 + th q / 2 % 2 * l 2)) - nI (th q / 4 % 2 * l 3) := by
    rw [sub_assoc32, nI_add, c32_1, nI_add, nI_add]
  have hv2 := one_le_sub (A := 1 + l 0 * gr q + (th q % 2 * l 1 + th q / 2 % 2 * l 2)) (B := th q / 4 % 2 * l 3) (by omega) (by omega)
  simp only [hv, hk0, hv2]
  have hC : ∀ {z z' : Nat}, z = z' → (some (some (Value.int (nI z)), m) : gR) = some (some (Value.int (nI z')), m) := fun e => by rw [e]
  unfold lkF lkN
  generalize l 0 * gr q = P0 at *
  generalize th q % 2 * l 1 = P1 at *
  generalize th q / 2 % 2 * l 2 = P2 at *
  generalize th q / 4 % 2 * l 3 = P3 at *
  by_cases hB : P3 + 1 ≤ 1 + P0 + (P1 + P2)
  · rw [if_pos hB, pk_sub (by omega)]
    by_cases hk : lick = some q
    · rw [if_pos hk, if_pos hk, c32_20, nI_add]; exact hC (by omega)
    · rw [if_neg hk, if_neg hk, c32_0, nI_add]; exact hC (by omega)
  · rw [if_neg hB]
    by_cases hk : lick = some q
    · rw [if_pos hk, if_pos hk, c32_20, c32_1, nI_add]; exact hC (by omega)
    · rw [if_neg hk, if_neg hk, c32_0, c32_1, nI_add]; exact hC (by omega)
def sumL (f : Nat → Nat) : List Nat → Nat
  | [] => 0
  | t :: r => f t + sumL f r
def lsS (f : Nat → Nat) (w h q : Nat) : Nat → Nat
  | 0 => 0
  | s + 1 => lsS f w h q s + (match wayS w h q s with | none => 0 | some t => f t)
theorem lsS_5 (f : Nat → Nat) (w h q : Nat) : lsS f w h q 5 = sumL f (wayL w h q) := by
  simp only [lsS, wayL, List.filterMap, wayS]
  by_cases h1 : 0 < q / w <;> by_cases h2 : q % w + 1 < w <;> by_cases h3 : q / w + 1 < h <;> by_cases h4 : 0 < q % w <;> simp [h1, h2, h3, h4, sumL] <;> omega
theorem lsS_le {f : Nat → Nat} {w h q : Nat} (hf : ∀ t, t < w * h → f t ≤ 201) (d : Dm w h) (hq : q < w * h) : ∀ s, s ≤ 5 → lsS f w h q s ≤ 201 * s
  | 0, _ => Nat.le_refl _
  | s + 1, hs => by
    have h1 := lsS_le hf d hq s (by omega)
    unfold lsS
    cases e : wayS w h q s with
    | none => simp only; omega
    | some t =>
      have := hf t (wayS_lt d hq e (by omega))
      simp only; omega
theorem likings_ml {m : gS} {w h q : Nat} {l th gr : Nat → Nat} {lick : Option Nat} (M : Md m w h) (K : LkM m (w * h) l th gr lick) (hq : q < w * h) {k : Int32 → Int32 → gS → gR} : ∀ (n i : Nat), i ≤ 5 → 5 - i < n → f_X10_likings_4 (nI q) k n (nI (lsS (lkF l th gr lick) w h q i)) (nI i) m = k (nI (lsS (lkF l th gr lick) w h q 5)) (nI 5) m := by
  intro n
  induction n with
  | zero => intro i _ h2; omega
  | succ n ih =>
    intro i h1 h2
    have hn := M.1.n
    rw [f_X10_likings_4.eq_2, c32_5]
    by_cases hi : 5 ≤ i
    · have e : i = 5 := by omega
      subst e
      rw [if_pos ((nI_leI (by omega) (by omega)).mpr (Nat.le_refl _))]
    · rw [if_neg (by rw [nI_leI (by omega) (by omega)]; omega), way_m M hq (by omega), gb_i]
      have hih := ih (i + 1) (by omega) (by omega)
      have hs : lsS (lkF l th gr lick) w h q (i + 1) = lsS (lkF l th gr lick) w h q i + (match wayS w h q i with | none => 0 | some t => lkF l th gr lick t) := rfl
      cases e : wayS w h q i with
      | none =>
        rw [e] at hs
        rw [if_pos (show oI none = -1 from rfl)]
        simp only [g_leti]
        rw [c32_0, nI_add, nI_1, ← hs, hih]
      | some t =>
        rw [e] at hs
        have ht := wayS_lt M.1 hq e (by omega)
        rw [if_neg (show ¬ oI (some t) = -1 from nI_m1 (by omega)), show oI (some t) = nI t from rfl, liking_m K hn ht, gb_i]
        simp only [g_leti]
        rw [nI_add, nI_1, ← hs, hih]
theorem likings_m {m : gS} {w h q : Nat} {l th gr : Nat → Nat} {lick : Option Nat} (M : Md m w h) (K : LkM m (w * h) l th gr lick) (hq : q < w * h) : f_X10_likings (nI q) m = some (some (.int (nI (sumL (lkF l th gr lick) (wayL w h q)))), m) := by
  rw [← lsS_5]
  unfold f_X10_likings
  exact likings_ml M K hq g_N 0 (by omega) (by unfold g_N; omega)
