/-! Words -/
def Wd (T : Nat → Int32) (kd st en : Nat) (W : List Int32) : Prop := kd = 1 ∧ en - st = W.length ∧ ∀ i, i < W.length → T (st + i) = W.getD i 0
/-- the i-th word of the class and its letters -/
def Wn (w : Nat) (W : List Int32) : Prop := g_slen w = nI W.length ∧ g_sL.getD w 0 = W.length ∧ (∀ i, i < W.length → g_schr w (nI i) = W.getD i 0) ∧ W.length ≤ 6
section WORD
variable {T : Nat → Int32} {len : Nat}
theorem iw_39 {w st en : Nat} {W : List Int32} (hW : Wn w W) {c : gS} (h : TC c T len) (h3 : c.1 1 3 = nI st) (hb : st + W.length ≤ len) : ∀ (n i : Nat), i ≤ W.length → W.length - i < n →
    ((∀ j, i ≤ j → j < W.length → T (st + j) = W.getD j 0) → f_X7_isWord_39 w (fun v2_1 s2 => (some (some (.int (1 : Int32)), s2))) n (nI i) c = some (some (.int 1), c)) ∧ (¬ (∀ j, i ≤ j → j < W.length → T (st + j) = W.getD j 0) → f_X7_isWord_39 w (fun v2_1 s2 => (some (some (.int (1 : Int32)), s2))) n (nI i) c = some (some (.int 0), c)) := by
  have hl := h.1
  obtain ⟨w1, w2, w3, w4⟩ := hW
  intro n
  induction n with
  | zero => intro i _ h1; omega
  | succ n ih =>
    intro i h1 h2
    rw [f_X7_isWord_39.eq_2, w1]
    by_cases e : W.length ≤ i
    · rw [if_pos ((nI_leI (by omega) (by omega)).mpr e)]
      exact ⟨fun _ => rfl, fun z => absurd (fun j a b => absurd b (by omega)) z⟩
    · rw [if_neg (by rw [nI_leI (by omega) (by omega)]; exact e), h3, nI_add, g_ixn (by omega) (by omega), w2, g_ixn (by omega) (by omega), nI_clamp (by omega), h.2.2 _ (by omega), w3 i (by omega), nI_1]
      by_cases e2 : T (st + i) = W.getD i 0
      · rw [if_pos e2]
        obtain ⟨i1, i2⟩ := ih (i + 1) (by omega) (by omega)
        refine ⟨fun z => i1 (fun j a b => z j (by omega) b), fun z => i2 (fun y => z (fun j a b => ?_))⟩
        by_cases ej : j = i
        · rw [ej]; exact e2
        · exact y j (by omega) b
      · rw [if_neg e2]
        exact ⟨fun z => absurd (z i (Nat.le_refl _) (by omega)) e2, fun _ => rfl⟩
/-- the class's answer to: is it this word -/
theorem iw_c {w kd st en : Nat} {W : List Int32} (hW : Wn w W) {c : gS} (h : TC c T len) (h2 : c.1 1 2 = nI kd) (h3 : c.1 1 3 = nI st) (h4 : c.1 1 4 = nI en) (hk : kd ≤ 4) (hs : st ≤ en) (hen : en ≤ len) : (Wd T kd st en W → f_X7_isWord w c = some (some (.int 1), c)) ∧ (¬ Wd T kd st en W → f_X7_isWord w c = some (some (.int 0), c)) := by
  have hl := h.1
  have w4 := hW.2.2.2
  unfold f_X7_isWord
  rw [h2, h3, h4, hW.1, h.2.1, pk_sub hs]
  by_cases e1 : kd = 1
  · subst e1
    rw [if_pos (show nI 1 = 1 from rfl)]
    by_cases e2 : en - st = W.length
    · rw [if_pos (by rw [e2]), if_pos (nI_le hen (by omega)), c32_0]
      obtain ⟨a1, a2⟩ := iw_39 (en := en) hW h h3 (by omega) g_N 0 (by omega) (by unfold g_N; omega)
      exact ⟨fun z => a1 (fun j _ b => z.2.2 j b), fun z => a2 (fun y => z ⟨rfl, e2, fun j b => y j (Nat.zero_le _) b⟩)⟩
    · rw [if_neg (by rw [nI_eq (by omega) (by omega)]; exact e2)]
      exact ⟨fun z => absurd z.2.1 e2, fun _ => rfl⟩
  · rw [if_neg (show ¬ nI kd = 1 from fun z => e1 ((nI_eq (b := 1) (by omega) (by omega)).mp z))]
    exact ⟨fun z => absurd z.1 e1, fun _ => rfl⟩
def sixW (v1 v2 v3 v4 v5 v6 : Int32) (i : Nat) : Int32 := match i with | 0 => v1 | 1 => v2 | 2 => v3 | 3 => v4 | 4 => v5 | _ => v6
theorem iw_st {m : gS} {v1 v2 v3 v4 v5 v6 : Int32} {st L i n : Nat} {k : Int32 → Int32 → gS → gR} (h : TM m T len) (h8 : m.1 0 18 = nI st) (hL : L ≤ 6) (hb : st + L ≤ len) (hi : i < L) : f_X10_isWord_58 v1 v2 v3 v4 v5 v6 (nI L) k (n + 1) 1 (nI i) m = if T (st + i) = sixW v1 v2 v3 v4 v5 v6 i then f_X10_isWord_58 v1 v2 v3 v4 v5 v6 (nI L) k n 1 (nI (i + 1)) m else f_X10_isWord_58 v1 v2 v3 v4 v5 v6 (nI L) k n 0 (nI (i + 1)) m := by
  have hl := h.1
  rw [f_X10_isWord_58.eq_2, if_neg (by rw [nI_leI (by omega) (by omega)]; omega), if_neg (by decide), h8, nI_add, g_ixn (by omega) (by omega), nI_clamp (by omega), h.2.2 _ (by omega), nI_1]
  rcases (show i = 0 ∨ i = 1 ∨ i = 2 ∨ i = 3 ∨ i = 4 ∨ i = 5 by omega) with rfl | rfl | rfl | rfl | rfl | rfl
  · rw [if_pos (show nI 0 = 0 from rfl)]; rfl
  · rw [if_neg (show ¬ nI 1 = 0 by decide), if_pos (show nI 1 = 1 from rfl)]; rfl
  · rw [if_neg (show ¬ nI 2 = 0 by decide), if_neg (show ¬ nI 2 = 1 by decide), if_pos (show nI 2 = 2 from rfl)]; rfl
  · rw [if_neg (show ¬ nI 3 = 0 by decide), if_neg (show ¬ nI 3 = 1 by decide), if_neg (show ¬ nI 3 = 2 by decide), if_pos (show nI 3 = 3 from rfl)]; rfl
  · rw [if_neg (show ¬ nI 4 = 0 by decide), if_neg (show ¬ nI 4 = 1 by decide), if_neg (show ¬ nI 4 = 2 by decide), if_neg (show ¬ nI 4 = 3 by decide), if_pos (show nI 4 = 4 from rfl)]; rfl
  · rw [if_neg (show ¬ nI 5 = 0 by decide), if_neg (show ¬ nI 5 = 1 by decide), if_neg (show ¬ nI 5 = 2 by decide), if_neg (show ¬ nI 5 = 3 by decide), if_neg (show ¬ nI 5 = 4 by decide)]; rfl
theorem iw_0 {m : gS} {v1 v2 v3 v4 v5 v6 : Int32} {L i n : Nat} {k : Int32 → Int32 → gS → gR} : f_X10_isWord_58 v1 v2 v3 v4 v5 v6 (nI L) k (n + 1) 0 (nI i) m = k 0 (nI i) m := by
  rw [f_X10_isWord_58.eq_2]
  by_cases e : nI L ≤ nI i
  · rw [if_pos e]
  · rw [if_neg e, if_pos rfl]
theorem iw_58 {m : gS} {v1 v2 v3 v4 v5 v6 : Int32} {st L : Nat} {k : Int32 → Int32 → gS → gR} (h : TM m T len) (h8 : m.1 0 18 = nI st) (hL : L ≤ 6) (hb : st + L ≤ len) : ∀ (n i : Nat), i ≤ L → L - i + 1 < n →
    ((∀ j, i ≤ j → j < L → T (st + j) = sixW v1 v2 v3 v4 v5 v6 j) → ∃ y, f_X10_isWord_58 v1 v2 v3 v4 v5 v6 (nI L) k n 1 (nI i) m = k 1 y m) ∧ (¬ (∀ j, i ≤ j → j < L → T (st + j) = sixW v1 v2 v3 v4 v5 v6 j) → ∃ y, f_X10_isWord_58 v1 v2 v3 v4 v5 v6 (nI L) k n 1 (nI i) m = k 0 y m) := by
  have hl := h.1
  intro n
  induction n with
  | zero => intro i _ h1; omega
  | succ n ih =>
    intro i h1 h2
    by_cases e : L ≤ i
    · rw [f_X10_isWord_58.eq_2, if_pos ((nI_leI (by omega) (by omega)).mpr e)]
      exact ⟨fun _ => ⟨_, rfl⟩, fun z => absurd (fun j a b => absurd b (by omega)) z⟩
    · rw [iw_st h h8 hL hb (by omega)]
      by_cases e2 : T (st + i) = sixW v1 v2 v3 v4 v5 v6 i
      · rw [if_pos e2]
        obtain ⟨i1, i2⟩ := ih (i + 1) (by omega) (by omega)
        refine ⟨fun z => i1 (fun j a b => z j (by omega) b), fun z => i2 (fun y => z (fun j a b => ?_))⟩
        by_cases ej : j = i
        · rw [ej]; exact e2
        · exact y j (by omega) b
      · obtain ⟨n0, rfl⟩ : ∃ k, n = k + 1 := ⟨n - 1, by omega⟩
        rw [if_neg e2, iw_0]
        exact ⟨fun z => absurd (z i (Nat.le_refl _) (by omega)) e2, fun _ => ⟨_, rfl⟩⟩
/-- the loop after the length -/
theorem iw_l {m : gS} {v1 v2 v3 v4 v5 v6 : Int32} {kd st en L : Nat} (h : TM m T len) (a : LA m T kd st en) (hk : kd ≤ 4) (hs : st ≤ en) (hen : en ≤ len) (hL : L ≤ 6) :
    ((kd = 1 ∧ en - st = L ∧ ∀ j, j < L → T (st + j) = sixW v1 v2 v3 v4 v5 v6 j) → (if (m.1 0 20) = (1 : Int32) then (if (m.1 0 19) = nI L then (f_X10_isWord_58 v1 v2 v3 v4 v5 v6 (nI L) (fun v8_34 v9_35 s36 => (g_01 v8_34 (some (some (.int v8_34), s36)))) g_N (1 : Int32) (0 : Int32) m) else (f_X10_isWord_58 v1 v2 v3 v4 v5 v6 (nI L) (fun v8_31 v9_32 s33 => (g_01 v8_31 (some (some (.int v8_31), s33)))) g_N (0 : Int32) (0 : Int32) m)) else (f_X10_isWord_58 v1 v2 v3 v4 v5 v6 (nI L) (fun v8_28 v9_29 s30 => (g_01 v8_28 (some (some (.int v8_28), s30)))) g_N (0 : Int32) (0 : Int32) m)) = some (some (.int 1), m)) ∧
    (¬ (kd = 1 ∧ en - st = L ∧ ∀ j, j < L → T (st + j) = sixW v1 v2 v3 v4 v5 v6 j) → (if (m.1 0 20) = (1 : Int32) then (if (m.1 0 19) = nI L then (f_X10_isWord_58 v1 v2 v3 v4 v5 v6 (nI L) (fun v8_34 v9_35 s36 => (g_01 v8_34 (some (some (.int v8_34), s36)))) g_N (1 : Int32) (0 : Int32) m) else (f_X10_isWord_58 v1 v2 v3 v4 v5 v6 (nI L) (fun v8_31 v9_32 s33 => (g_01 v8_31 (some (some (.int v8_31), s33)))) g_N (0 : Int32) (0 : Int32) m)) else (f_X10_isWord_58 v1 v2 v3 v4 v5 v6 (nI L) (fun v8_28 v9_29 s30 => (g_01 v8_28 (some (some (.int v8_28), s30)))) g_N (0 : Int32) (0 : Int32) m)) = some (some (.int 0), m)) := by
  have hl := h.1
  have gN : g_N = (g_N - 1) + 1 := by unfold g_N; omega
  rw [a.2.2.1, a.2.1]
  by_cases e1 : kd = 1
  · subst e1
    rw [if_pos (show nI 1 = 1 from rfl)]
    by_cases e2 : en - st = L
    · rw [if_pos (by rw [e2]), c32_0]
      obtain ⟨a1, a2⟩ := iw_58 (v1 := v1) (v2 := v2) (v3 := v3) (v4 := v4) (v5 := v5) (v6 := v6) (k := fun v8_34 v9_35 s36 => (g_01 v8_34 (some (some (.int v8_34), s36)))) h a.1 hL (by omega) g_N 0 (by omega) (by unfold g_N; omega)
      refine ⟨fun z => ?_, fun z => ?_⟩
      · obtain ⟨y, hy⟩ := a1 (fun j _ b => z.2.2 j b)
        rw [hy]; rfl
      · obtain ⟨y, hy⟩ := a2 (fun y => z ⟨rfl, e2, fun j b => y j (Nat.zero_le _) b⟩)
        rw [hy]; rfl
    · rw [if_neg (by rw [nI_eq (by omega) (by omega)]; exact e2), gN, show (0 : Int32) = nI 0 from rfl, show nI 0 = (0 : Int32) from rfl]
      refine ⟨fun z => absurd z.2.1 e2, fun _ => ?_⟩
      have := iw_0 (m := m) (v1 := v1) (v2 := v2) (v3 := v3) (v4 := v4) (v5 := v5) (v6 := v6) (L := L) (i := 0) (n := g_N - 1) (k := fun v8_34 v9_35 s36 => (g_01 v8_34 (some (some (.int v8_34), s36))))
      rw [← c32_0] at this
      rw [this]; rfl
  · rw [if_neg (show ¬ nI kd = 1 from fun z => e1 ((nI_eq (b := 1) (by omega) (by omega)).mp z)), gN]
    refine ⟨fun z => absurd z.1 e1, fun _ => ?_⟩
    have := iw_0 (m := m) (v1 := v1) (v2 := v2) (v3 := v3) (v4 := v4) (v5 := v5) (v6 := v6) (L := L) (i := 0) (n := g_N - 1) (k := fun v8_34 v9_35 s36 => (g_01 v8_34 (some (some (.int v8_34), s36))))
    rw [← c32_0] at this
    rw [this]; rfl
end WORD
