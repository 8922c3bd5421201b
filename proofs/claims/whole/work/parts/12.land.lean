/-! The meadow's shape: dimensions, cells, ways -/
def Dm (w h : Nat) : Prop := (w = 0 ∧ h = 0) ∨ (1 ≤ w ∧ w ≤ 9 ∧ 1 ≤ h ∧ h ≤ 9 ∧ w * h ≤ 40)
theorem Dm.w {w h : Nat} (d : Dm w h) : w ≤ 9 := by rcases d with ⟨a, b⟩ | ⟨a, b, c, e, f⟩ <;> omega
theorem Dm.h {w h : Nat} (d : Dm w h) : h ≤ 9 := by rcases d with ⟨a, b⟩ | ⟨a, b, c, e, f⟩ <;> omega
theorem Dm.n {w h : Nat} (d : Dm w h) : w * h ≤ 40 := by
  rcases d with ⟨a, b⟩ | ⟨a, b, c, e, f⟩
  · subst a; omega
  · exact f
def wayS (w h q : Nat) : Nat → Option Nat
  | 0 => some q
  | 1 => if 0 < q / w then some (q - w) else none
  | 2 => if q % w + 1 < w then some (q + 1) else none
  | 3 => if q / w + 1 < h then some (q + w) else none
  | _ => if 0 < q % w then some (q - 1) else none
def wayL (w h q : Nat) : List Nat := [0, 1, 2, 3, 4].filterMap (wayS w h q)
def oI : Option Nat → Int32
  | none => -1
  | some q => nI q
def chk3 (P : Nat → Nat → Nat → Bool) : Bool := (List.range 10).all fun w => (List.range 10).all fun h => (List.range 41).all fun q => P w h q
theorem chk3_of {P : Nat → Nat → Nat → Bool} (h : chk3 P = true) {w k q : Nat} (hw : w < 10) (hk : k < 10) (hq : q < 41) : P w k q = true :=
  List.all_eq_true.mp (List.all_eq_true.mp (List.all_eq_true.mp h w (List.mem_range.mpr hw)) k (List.mem_range.mpr hk)) q (List.mem_range.mpr hq)
theorem way_k : chk3 (fun w h q => !(decide (w * h ≤ 40 ∧ q < w * h)) || (decide (0 < (wayL w h q).length ∧ (wayL w h q).length ≤ 5) && (wayL w h q).all (fun t => decide (t < w * h)))) = true := by decide +kernel
theorem way_t {w : Nat} (hw : w < 10) {h : Nat} (hh : h < 10) (hn : w * h ≤ 40) {q : Nat} (hq : q < w * h) : 0 < (wayL w h q).length ∧ (wayL w h q).length ≤ 5 ∧ (∀ t ∈ wayL w h q, t < w * h) := by
  have h1 := chk3_of way_k hw hh (show q < 41 by omega)
  rw [show decide (w * h ≤ 40 ∧ q < w * h) = true from decide_eq_true ⟨hn, hq⟩] at h1
  simp only [Bool.not_true, Bool.false_or, Bool.and_eq_true, decide_eq_true_eq, List.all_eq_true] at h1
  exact ⟨h1.1.1, h1.1.2, h1.2⟩
theorem Dm.q {w h q : Nat} (d : Dm w h) (hq : q < w * h) : q < 40 ∧ 0 < w ∧ q % w < w ∧ q / w < h ∧ q / w * w + q % w = q := by
  have h1 := d.n
  have h0 : 0 < w := by
    rcases Nat.eq_zero_or_pos w with e | e
    · subst e; omega
    · exact e
  exact ⟨by omega, h0, Nat.mod_lt _ h0, Nat.div_lt_of_lt_mul hq, by rw [Nat.mul_comm]; exact Nat.div_add_mod q w⟩
theorem way_len {w h q : Nat} (d : Dm w h) (hq : q < w * h) : 0 < (wayL w h q).length ∧ (wayL w h q).length ≤ 5 ∧ (∀ t ∈ wayL w h q, t < w * h) :=
  way_t (by have := d.w; omega) (by have := d.h; omega) d.n hq
def Ld (c : gS) (a w h : Nat) : Prop := Dm w h ∧ c.1 a 0 = nI w ∧ c.1 a 1 = nI h ∧ c.1 a 2 = nI (w * h) ∧ ∀ q, q < w * h → c.1 (a + 1) q = nI (q % w) ∧ c.1 (a + 2) q = nI (q / w) ∧ c.1 (a + 7) q = nI (wayL w h q).length ∧ ∀ i, i < (wayL w h q).length → c.1 (a + 6) (q * 5 + i) = nI ((wayL w h q).getD i 0)
def Md (m : gS) (w h : Nat) : Prop := Dm w h ∧ m.1 0 3 = nI w ∧ m.1 0 4 = nI h
section LAND
variable {c : gS} {a w h : Nat}
theorem has_in (L : Ld c a w h) {q : Nat} (hq : q < w * h) : f_X3_has a (nI q) c = some (some (.int 1), c) := by
  have hn := L.1.n
  unfold f_X3_has
  rw [if_neg (nI_n0 (by omega)), L.2.2.2.1, if_neg (by rw [nI_leI (by omega) (by omega)]; omega), c32_40, if_neg (by rw [nI_leI (by omega) (by omega)]; omega)]
theorem has_no : f_X3_has a (-1) c = some (some (.int 0), c) := by
  unfold f_X3_has
  rw [if_pos (by decide)]
theorem has_ge (L : Ld c a w h) {k : Nat} (hk : w * h ≤ k) (hk2 : k < 2 ^ 31) : f_X3_has a (nI k) c = some (some (.int 0), c) := by
  have hn := L.1.n
  unfold f_X3_has
  rw [if_neg (nI_n0 (by omega)), L.2.2.2.1, if_pos (by rw [nI_leI (by omega) (by omega)]; omega)]
def inR (w h : Nat) (x y : Int32) : Prop := ∃ q, q < w * h ∧ x = nI (q % w) ∧ y = nI (q / w)
theorem inR_mk {i j : Nat} (hi : i < w) (hj : j < h) : (j * w + i) < w * h ∧ (j * w + i) % w = i ∧ (j * w + i) / w = j := by
  have h0 : 0 < w := by omega
  refine ⟨?_, ?_, ?_⟩
  · have : (j + 1) * w ≤ h * w := Nat.mul_le_mul_right w hj
    rw [Nat.mul_comm w h]
    have e : (j + 1) * w = j * w + w := Nat.succ_mul j w
    omega
  · rw [Nat.mul_comm, Nat.mul_add_mod]; exact Nat.mod_eq_of_lt hi
  · rw [Nat.mul_comm, Nat.mul_add_div h0, Nat.div_eq_of_lt hi]; rfl
theorem cellAt_in (L : Ld c a w h) {q : Nat} (hq : q < w * h) : f_X3_cellAt a (nI (q % w)) (nI (q / w)) c = some (some (.int (nI q)), c) := by
  obtain ⟨h1, h2, h3, h4, h5⟩ := L.1.q hq
  have hw := L.1.w
  have hh := L.1.h
  unfold f_X3_cellAt
  rw [if_neg (nI_n0 (by omega)), L.2.1, if_neg (by rw [nI_leI (by omega) (by omega)]; omega), if_neg (nI_n0 (by omega)), L.2.2.1, if_pos (by rw [nI_ltI (by omega) (by omega)]; omega), pk_mul, nI_add, h5]
theorem cellAt_out (L : Ld c a w h) {x y : Int32} (hx : ¬ inR w h x y) : f_X3_cellAt a x y c = some (some (.int (-1)), c) := by
  have hw := L.1.w
  have hh := L.1.h
  unfold f_X3_cellAt
  rw [L.2.1, L.2.2.1]
  rcases i32c x with q | ⟨i, hi, rfl⟩
  · rw [if_pos q]
  · rw [if_neg (nI_n0 hi)]
    by_cases h1 : w ≤ i
    · rw [if_pos ((nI_leI (by omega) hi).mpr h1)]
    · rw [if_neg (by rw [nI_leI (by omega) hi]; omega)]
      rcases i32c y with q | ⟨j, hj, rfl⟩
      · rw [if_pos q]
      · rw [if_neg (nI_n0 hj), if_neg]
        intro h2
        rw [nI_ltI hj (by omega)] at h2
        obtain ⟨e1, e2, e3⟩ := inR_mk (w := w) (h := h) (i := i) (j := j) (by omega) h2
        exact hx ⟨j * w + i, e1, by rw [e2], by rw [e3]⟩
theorem placeOf_in (L : Ld c a w h) {q : Nat} (hq : q < w * h) : f_X3_placeOf a (nI q) c = some (some (.int (nI (10 * (q % w) + q / w))), c) := by
  obtain ⟨h1, h2, h3, h4, h5⟩ := L.1.q hq
  obtain ⟨e1, e2, -⟩ := L.2.2.2.2 q hq
  unfold f_X3_placeOf
  rw [has_in L hq, gb_i, if_neg (by decide), g_ixn (by omega) (by omega), g_ixn (by omega) (by omega), nI_clamp (by omega), e1, e2, c32_10, pk_mul, nI_add]
theorem placeOf_no : f_X3_placeOf a (-1) c = some (some (.int (-1)), c) := by
  unfold f_X3_placeOf
  rw [has_no, gb_i, if_pos rfl]
theorem wayFrom_in (L : Ld c a w h) {q i : Nat} (hq : q < w * h) (hi : i < 2 ^ 31) : f_X3_wayFrom a (nI q) (nI i) c = some (some (.int (oI ((wayL w h q)[i]?))), c) := by
  obtain ⟨h1, h2, h3, h4, h5⟩ := L.1.q hq
  obtain ⟨e1, e2, e3, e4⟩ := L.2.2.2.2 q hq
  obtain ⟨l1, l2, l3⟩ := way_len L.1 hq
  have hn := L.1.n
  unfold f_X3_wayFrom
  rw [if_neg (nI_n0 (by omega)), L.2.2.2.1, if_neg (by rw [nI_leI (by omega) (by omega)]; omega), c32_40, if_pos (by rw [nI_ltI (by omega) (by omega)]; omega), if_neg (nI_n0 hi), g_ixn (by omega) (by omega), nI_clamp (by omega), e3]
  by_cases hl : (wayL w h q).length ≤ i
  · rw [if_pos (by rw [nI_leI (by omega) hi]; exact hl), List.getElem?_eq_none hl]; rfl
  · rw [if_neg (by rw [nI_leI (by omega) hi]; exact hl), c32_5, if_pos (by rw [nI_ltI hi (by omega)]; omega), pk_mul, nI_add, g_ixn (by omega) (by omega), nI_clamp (by omega), e4 i (by omega)]
    rw [List.getD_eq_getElem?_getD, List.getElem?_eq_getElem (by omega)]; rfl
end LAND
section MLAND
variable {m : gS} {w h : Nat}
theorem le_pred {x : Int32} {k : Nat} (hk : k < 2 ^ 30) : x ≤ nI k - 1 ↔ x < nI k := by
  rw [Int32.le_iff_toInt_le, Int32.lt_iff_toInt_lt, c32_1, pk_sub_toInt hk (by omega), nI_toInt (by omega)]
  omega
theorem isCell_b (M : Md m w h) (x y : Int32) : f_X10_isCell x y m = some (some (.int (if (nI 0 ≤ x ∧ x < nI w) ∧ (nI 0 ≤ y ∧ y < nI h) then 1 else 0)), m) := by
  have hw := M.1.w
  have hh := M.1.h
  unfold f_X10_isCell
  rw [in_f, gb_i, c64_0, i64z 0 (by omega)]
  simp only [i64le, M.2.1, M.2.2]
  rw [in_f, gb_i]
  simp only [i64le, le_pred (show w < 2 ^ 30 by omega), le_pred (show h < 2 ^ 30 by omega)]
  by_cases h1 : nI 0 ≤ x ∧ x < nI w
  · by_cases h2 : nI 0 ≤ y ∧ y < nI h
    · simp [h1, h2]
    · simp [h1, h2]
  · simp [h1]
theorem isCell_in (M : Md m w h) {q : Nat} (hq : q < w * h) : f_X10_isCell (nI (q % w)) (nI (q / w)) m = some (some (.int 1), m) := by
  obtain ⟨h1, h2, h3, h4, h5⟩ := M.1.q hq
  have hw := M.1.w
  have hh := M.1.h
  rw [isCell_b M, if_pos ⟨⟨nI_le (Nat.zero_le _) (by omega), nI_lt h3 (by omega)⟩, nI_le (Nat.zero_le _) (by omega), nI_lt h4 (by omega)⟩]
theorem isCell_out (M : Md m w h) {x y : Int32} (hx : ¬ inR w h x y) : f_X10_isCell x y m = some (some (.int 0), m) := by
  have hw := M.1.w
  have hh := M.1.h
  rw [isCell_b M, if_neg]
  rintro ⟨⟨a1, a2⟩, a3, a4⟩
  rcases i32c x with q | ⟨i, hi, rfl⟩
  · exact neg_nle q (by omega) a1
  · rcases i32c y with q | ⟨j, hj, rfl⟩
    · exact neg_nle q (by omega) a3
    · rw [nI_ltI hi (by omega)] at a2
      rw [nI_ltI hj (by omega)] at a4
      obtain ⟨e1, e2, e3⟩ := inR_mk a2 a4
      exact hx ⟨j * w + i, e1, by rw [e2], by rw [e3]⟩
theorem named_in (M : Md m w h) {q : Nat} (hq : q < w * h) : f_X10_named (nI q) m = some (some (.int (nI (10 * (q % w) + q / w))), m) := by
  obtain ⟨h1, h2, h3, h4, h5⟩ := M.1.q hq
  have hw := M.1.w
  unfold f_X10_named
  rw [if_neg (nI_m1 (by omega)), M.2.1, if_neg (by rw [c32_0, nI_eq (by omega) (by omega)]; omega), if_neg (by rw [c32_0, nI_eq (by omega) (by omega)]; omega), remN (by omega) h2 (by omega), pk_div (by omega) h2 (by omega), c32_10, pk_mul, nI_add]
theorem named_no : f_X10_named (-1) m = some (some (.int (-1)), m) := by
  unfold f_X10_named
  rw [if_pos rfl]
theorem cells_m (M : Md m w h) : f_X10_cells m = some (some (.int (nI (w * h))), m) := by
  unfold f_X10_cells
  rw [M.2.1, M.2.2, pk_mul]
end MLAND
