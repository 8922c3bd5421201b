/-! Rests, the fairest cell -/
def rndS (f0 f1 : Option Nat → Option Nat) : Nat → Nat → Option Nat → Option Nat → Option (Nat × Option Nat × Option Nat)
  | 0, _, _, _ => none
  | t + 1, r, a, b => if f0 b = a then (if f1 (f0 b) = b then some (r, a, b) else rndS f0 f1 t (r + 1) (f0 b) (f1 (f0 b))) else rndS f0 f1 t (r + 1) (f0 b) (f1 (f0 b))
theorem rnd_b {f0 f1 : Option Nat → Option Nat} {n : Nat} (h0 : ∀ o q, f0 o = some q → q < n) (h1 : ∀ o q, f1 o = some q → q < n) : ∀ t r a b, (∀ q, a = some q → q < n) → (∀ q, b = some q → q < n) → ∀ r' a' b', rndS f0 f1 t r a b = some (r', a', b') → (∀ q, a' = some q → q < n) ∧ (∀ q, b' = some q → q < n) ∧ r ≤ r' ∧ r' < r + t
  | 0, _, _, _, _, _, _, _, _, e => by cases e
  | t + 1, r, a, b, ha, hb, r', a', b', e => by
    unfold rndS at e
    have rc := rnd_b h0 h1 t (r + 1) (f0 b) (f1 (f0 b)) (h0 b) (h1 _) r' a' b'
    by_cases e1 : f0 b = a
    · rw [if_pos e1] at e
      by_cases e2 : f1 (f0 b) = b
      · rw [if_pos e2] at e
        cases e
        exact ⟨ha, hb, Nat.le_refl _, by omega⟩
      · rw [if_neg e2] at e
        obtain ⟨x1, x2, x3, x4⟩ := rc e
        exact ⟨x1, x2, by omega, by omega⟩
    · rw [if_neg e1] at e
      obtain ⟨x1, x2, x3, x4⟩ := rc e
      exact ⟨x1, x2, by omega, by omega⟩
theorem bst_b {f : Nat → Nat} {n q : Nat} (h : (bstS f n).1 = some q) : q < n := by
  obtain ⟨h1, h2, h3⟩ := bst_lt f n
  rcases Nat.eq_zero_or_pos n with e | e
  · rw [h3 e] at h; cases h
  · obtain ⟨b, v, hb⟩ := h2 e
    rw [hb] at h
    cases h
    exact (h1 _ _ hb).1
theorem oI_inj {a b : Option Nat} {n : Nat} (hn : n < 2 ^ 31) (ha : ∀ q, a = some q → q < n) (hb : ∀ q, b = some q → q < n) : (oI a = oI b) = (a = b) := by
  cases b with
  | none =>
    cases a with
    | none => simp
    | some q =>
      simp only [oI, reduceCtorEq, eq_iff_iff, iff_false]
      exact nI_m1 (by have := ha q rfl; omega)
  | some q => exact oI_eq (by have := hb q rfl; omega) (fun k hk => by have := ha k hk; omega)
section RST
variable {w h hr law : Nat} {l th ti gr fg : Nat → Nat} {lick wk : Option Nat}
def bsO (w h law : Nat) (l th ti gr : Nat → Nat) (lick wk : Option Nat) (hr p k : Nat) (o : Option Nat) : Option Nat := (bstS (mnC w h law l th ti gr lick wk hr p k o) (w * h)).1
theorem rr_24 {s0 : gS} {k : Nat} (C : CX s0 w h hr law l th ti gr lick wk) (hT : Tb s0 w h law ti (w * h)) (hk : k ≤ 9) {kk : Int32 → gS → gR} : ∀ (n r : Nat) (s : gS) (a b : Option Nat), r ≤ 20 → 20 - r < n → Sm [34, 35, 36, 37, 38] s0 s → s.1 38 6 = oI a → s.1 38 7 = oI b → (∀ q, a = some q → q < w * h) → (∀ q, b = some q → q < w * h) →
    ∃ s', Sm [34, 35, 36, 37, 38] s0 s' ∧ (match rndS (bsO w h law l th ti gr lick wk hr 0 k) (bsO w h law l th ti gr lick wk hr 1 k) (20 - r) r a b with
      | none => f_X8_roundsTillRest_24 (nI k) kk n (nI r) s = kk (nI 20) s'
      | some (r', a', b') => f_X8_roundsTillRest_24 (nI k) kk n (nI r) s = some (some (.int (nI r')), s') ∧ s'.1 38 6 = oI a' ∧ s'.1 38 7 = oI b') := by
  intro n
  induction n with
  | zero => intro r s a b _ h2; omega
  | succ n ih =>
    intro r s a b h1 h2 hS h6 h7 ha hb
    have hn := C.1.1.n
    have C' := C.sm (hS.mono (fun k hk => by simp at hk ⊢; omega))
    have hT' : Tb s w h law ti (w * h) := by unfold Tb; rw [(hS 39 (by simp)).1, (hS 40 (by simp)).1]; exact hT
    rw [f_X8_roundsTillRest_24.eq_2]
    by_cases hr20 : 20 ≤ r
    · have e : r = 20 := by omega
      subst e
      rw [if_pos (by decide)]
      exact ⟨s, hS, rfl⟩
    · rw [c32_20, if_neg (by rw [nI_leI (by omega) (by omega)]; omega)]
      simp only [g_leti]
      rw [h6, h7, c32_0]
      obtain ⟨s1, a1, a2, a3, a4⟩ := bc_c (p := 0) (k := k) (o := b) C' hT' (by omega) hk hb
      rw [a4, gb_i]
      simp only [g_let]
      have S1 : Sm [34, 35, 36, 37, 38] s0 (g_si s1 38 6 (oI (bsO w h law l th ti gr lick wk hr 0 k b))) := (hS.tr a1).tr (Sm.si (by simp))
      have C1 := C.sm (S1.mono (fun k hk => by simp at hk ⊢; omega))
      have hT1 : Tb (g_si s1 38 6 (oI (bsO w h law l th ti gr lick wk hr 0 k b))) w h law ti (w * h) := by unfold Tb; rw [(S1 39 (by simp)).1, (S1 40 (by simp)).1]; exact hT
      have hb1 : ∀ q, bsO w h law l th ti gr lick wk hr 0 k b = some q → q < w * h := fun q hq => bst_b hq
      obtain ⟨s2, d1, d2, d3, d4⟩ := bc_c (p := 1) (k := k) (o := bsO w h law l th ti gr lick wk hr 0 k b) C1 hT1 (by omega) hk hb1
      have hb2 : ∀ q, bsO w h law l th ti gr lick wk hr 1 k (bsO w h law l th ti gr lick wk hr 0 k b) = some q → q < w * h := fun q hq => bst_b hq
      have e86 : (g_si s1 38 6 (oI (bstS (mnC w h law l th ti gr lick wk hr 0 k b) (w * h)).1)).1 38 6 = oI (bsO w h law l th ti gr lick wk hr 0 k b) := by rw [si1]; simp [bsO]
      rw [e86, c32_1]
      rw [show (bstS (mnC w h law l th ti gr lick wk hr 0 k b) (w * h)).1 = bsO w h law l th ti gr lick wk hr 0 k b from rfl]
      rw [d4, gb_i]
      rw [show (bstS (mnC w h law l th ti gr lick wk hr 1 k (bsO w h law l th ti gr lick wk hr 0 k b)) (w * h)).1 = bsO w h law l th ti gr lick wk hr 1 k (bsO w h law l th ti gr lick wk hr 0 k b) from rfl]
      have f6 : ∀ v, (g_si s2 38 7 v).1 38 6 = oI (bsO w h law l th ti gr lick wk hr 0 k b) := fun v => by
        rw [si1, if_neg (by decide), d3 6 (by decide), si1]; simp
      have f7 : ∀ v, (g_si s2 38 7 v).1 38 7 = v := fun v => by rw [si1]; simp
      rw [f6, f7]
      have S2' : Sm [34, 35, 36, 37, 38] s0 (g_si s2 38 7 (oI (bsO w h law l th ti gr lick wk hr 1 k (bsO w h law l th ti gr lick wk hr 0 k b)))) := (S1.tr d1).tr (Sm.si (by simp))
      have i1 := oI_inj (n := w * h) (by omega) hb1 ha
      have i2 := oI_inj (n := w * h) (by omega) hb2 hb
      simp only [i1, i2]
      have hx := ih (r + 1) _ _ _ (by omega) (by omega) S2' (f6 _) (f7 _) hb1 hb2
      rw [show 20 - r = (20 - (r + 1)) + 1 by omega]
      unfold rndS
      by_cases e1 : bsO w h law l th ti gr lick wk hr 0 k b = a
      · rw [if_pos e1, if_pos e1]
        by_cases e2 : bsO w h law l th ti gr lick wk hr 1 k (bsO w h law l th ti gr lick wk hr 0 k b) = b
        · rw [if_pos e2, if_pos e2]
          exact ⟨_, S2', rfl, by rw [f6, e1], by rw [f7, e2]⟩
        · rw [if_neg e2, if_neg e2, nI_add]; exact hx
      · rw [if_neg e1, if_neg e1, nI_add]; exact hx
theorem rr_c {s : gS} {k : Nat} (C : CX s w h hr law l th ti gr lick wk) (hT : Tb s w h law ti (w * h)) (hk : k ≤ 9) :
    ∃ s', Sm [34, 35, 36, 37, 38] s s' ∧ (match rndS (bsO w h law l th ti gr lick wk hr 0 k) (bsO w h law l th ti gr lick wk hr 1 k) 20 0 (bsO w h law l th ti gr lick wk hr 0 k none) (bsO w h law l th ti gr lick wk hr 1 k none) with
      | none => f_X8_roundsTillRest (nI k) s = some (some (.int (-1)), s')
      | some (r', a', b') => f_X8_roundsTillRest (nI k) s = some (some (.int (nI r')), s') ∧ s'.1 38 6 = oI a' ∧ s'.1 38 7 = oI b') := by
  have hn := C.1.1.n
  unfold f_X8_roundsTillRest
  obtain ⟨s1, a1, a2, a3, a4⟩ := bc_c (p := 0) (k := k) (o := none) C hT (by omega) hk (fun q hq => by cases hq)
  rw [show (-1 : Int32) = oI none from rfl, c32_0, a4, gb_i]
  simp only [g_let]
  rw [show (bstS (mnC w h law l th ti gr lick wk hr 0 k none) (w * h)).1 = bsO w h law l th ti gr lick wk hr 0 k none from rfl]
  have S1 : Sm [34, 35, 36, 37, 38] s (g_si s1 38 6 (oI (bsO w h law l th ti gr lick wk hr 0 k none))) := a1.tr (Sm.si (by simp))
  have C1 := C.sm (S1.mono (fun k hk => by simp at hk ⊢; omega))
  have hT1 : Tb (g_si s1 38 6 (oI (bsO w h law l th ti gr lick wk hr 0 k none))) w h law ti (w * h) := by unfold Tb; rw [(S1 39 (by simp)).1, (S1 40 (by simp)).1]; exact hT
  obtain ⟨s2, d1, d2, d3, d4⟩ := bc_c (p := 1) (k := k) (o := none) C1 hT1 (by omega) hk (fun q hq => by cases hq)
  rw [c32_1, d4, gb_i]
  rw [show (bstS (mnC w h law l th ti gr lick wk hr 1 k none) (w * h)).1 = bsO w h law l th ti gr lick wk hr 1 k none from rfl]
  have S2' : Sm [34, 35, 36, 37, 38] s (g_si s2 38 7 (oI (bsO w h law l th ti gr lick wk hr 1 k none))) := (S1.tr d1).tr (Sm.si (by simp))
  have C2 := C.sm (S2'.mono (fun k hk => by simp at hk ⊢; omega))
  have hT2 : Tb (g_si s2 38 7 (oI (bsO w h law l th ti gr lick wk hr 1 k none))) w h law ti (w * h) := by unfold Tb; rw [(S2' 39 (by simp)).1, (S2' 40 (by simp)).1]; exact hT
  obtain ⟨s', x1, x2⟩ := rr_24 (kk := fun v2_15 s16 => (some (some (.int (oI none)), s16))) C2 hT2 hk g_N 0 _ (bsO w h law l th ti gr lick wk hr 0 k none) (bsO w h law l th ti gr lick wk hr 1 k none) (by omega) (by unfold g_N; omega) Sm.rf (by rw [si1, if_neg (by decide), d3 6 (by decide), si1]; simp) (by rw [si1]; simp) (fun q hq => bst_b hq) (fun q hq => bst_b hq)
  exact ⟨s', S2'.tr x1, x2⟩
theorem rr_61 {m0 : gS} {k : Nat} {v1 : Int32} (C : MX m0 w h hr law l th ti gr lick wk) (hF : FG m0 (w * h) fg) (hk : k ≤ 9) {kk : Int32 → Int32 → Int32 → gS → gR} : ∀ (n r : Nat) (m : gS) (a b : Option Nat), r ≤ 20 → 20 - r < n → M2 m0 m → (∀ q, a = some q → q < w * h) → (∀ q, b = some q → q < w * h) →
    ∃ m', M2 m0 m' ∧ (match rndS (bsO w h law l th ti gr lick wk hr 0 k) (bsO w h law l th ti gr lick wk hr 1 k) (20 - r) r a b with
      | none => ∃ x y, f_X10_rests_61 v1 (nI k) kk n (oI a) (oI b) (nI r) m = kk x y (nI 20) m'
      | some (r', a', b') => f_X10_rests_61 v1 (nI k) kk n (oI a) (oI b) (nI r) m = (if v1 = (-1 : Int32) then (some (some (.int (nI r')), m')) else (if v1 = 0 then (g_bind (f_X10_named (oI a') m') (g_ki (fun r16 s15 => (some (some (.int r16), s15))))) else (g_bind (f_X10_named (oI b') m') (g_ki (fun r14 s13 => (some (some (.int r14), s13)))))))) := by
  intro n
  induction n with
  | zero => intro r m a b _ h2; omega
  | succ n ih =>
    intro r m a b h1 h2 hS ha hb
    have hn := C.1.1.n
    have C' := C.m2 hS
    have F' : FG m (w * h) fg := by unfold FG; rw [hS.2 1 (by decide) (by decide)]; exact hF
    rw [f_X10_rests_61.eq_2]
    by_cases hr20 : 20 ≤ r
    · have e : r = 20 := by omega
      subst e
      rw [if_pos (by decide)]
      exact ⟨m, hS, oI a, oI b, rfl⟩
    · rw [c32_20, if_neg (by rw [nI_leI (by omega) (by omega)]; omega), show ((0 : Int32)) = nI 0 from rfl]
      obtain ⟨m1, a1, a2, a4⟩ := bc_m (p := 0) (k := k) (o := b) C' F' (by omega) hk hb
      rw [a4, gb_i]
      rw [show (bstS (mnC w h law l th ti gr lick wk hr 0 k b) (w * h)).1 = bsO w h law l th ti gr lick wk hr 0 k b from rfl]
      have S1 := hS.tr a1
      have C1 := C.m2 S1
      have F1 : FG m1 (w * h) fg := by unfold FG; rw [S1.2 1 (by decide) (by decide)]; exact hF
      have hb1 : ∀ q, bsO w h law l th ti gr lick wk hr 0 k b = some q → q < w * h := fun q hq => bst_b hq
      obtain ⟨m2, d1, d2, d4⟩ := bc_m (p := 1) (k := k) (o := bsO w h law l th ti gr lick wk hr 0 k b) C1 F1 (by omega) hk hb1
      have hb2 : ∀ q, bsO w h law l th ti gr lick wk hr 1 k (bsO w h law l th ti gr lick wk hr 0 k b) = some q → q < w * h := fun q hq => bst_b hq
      rw [c32_1, d4, gb_i]
      rw [show (bstS (mnC w h law l th ti gr lick wk hr 1 k (bsO w h law l th ti gr lick wk hr 0 k b)) (w * h)).1 = bsO w h law l th ti gr lick wk hr 1 k (bsO w h law l th ti gr lick wk hr 0 k b) from rfl]
      have i1 := oI_inj (n := w * h) (by omega) hb1 ha
      have i2 := oI_inj (n := w * h) (by omega) hb2 hb
      simp only [i1, i2]
      have S2' := S1.tr d1
      have hx := ih (r + 1) m2 _ _ (by omega) (by omega) S2' hb1 hb2
      rw [show 20 - r = (20 - (r + 1)) + 1 by omega, nI_add]
      unfold rndS
      by_cases e1 : bsO w h law l th ti gr lick wk hr 0 k b = a
      · rw [if_pos e1, if_pos e1]
        by_cases e2 : bsO w h law l th ti gr lick wk hr 1 k (bsO w h law l th ti gr lick wk hr 0 k b) = b
        · rw [if_pos e2, if_pos e2]
          exact ⟨m2, S2', rfl⟩
        · rw [if_neg e2, if_neg e2]; exact hx
      · rw [if_neg e1, if_neg e1]; exact hx
/-! fairest -/
def lstS (f : Nat → Nat) : Nat → Option Nat × Nat
  | 0 => (none, 0)
  | i + 1 => match lstS f i with
    | (none, _) => (some i, f i)
    | (some b, v) => if f i < v then (some i, f i) else (some b, v)
theorem lst_lt (f : Nat → Nat) : ∀ i, (∀ b v, lstS f i = (some b, v) → b < i ∧ ∃ j, j < i ∧ v = f j) ∧ (0 < i → ∃ b v, lstS f i = (some b, v)) ∧ (i = 0 → lstS f i = (none, 0))
  | 0 => ⟨(fun b v e => by cases e), (fun h => absurd h (by omega)), (fun _ => rfl)⟩
  | i + 1 => by
    obtain ⟨h1, h2, h3⟩ := lst_lt f i
    have e : lstS f (i + 1) = (match lstS f i with | (none, _) => (some i, f i) | (some b, v) => if f i < v then (some i, f i) else (some b, v)) := rfl
    rcases Nat.eq_zero_or_pos i with e0 | e0
    · subst e0
      refine ⟨fun b v q => ?_, fun _ => ⟨0, f 0, rfl⟩, fun q => absurd q (by omega)⟩
      have q' : ((some 0, f 0) : Option Nat × Nat) = (some b, v) := q
      cases q'; exact ⟨Nat.zero_lt_one, 0, Nat.zero_lt_one, rfl⟩
    · obtain ⟨b0, v0, hb⟩ := h2 e0
      rw [hb] at e
      obtain ⟨g1, j, g2, g3⟩ := h1 b0 v0 hb
      simp only at e
      by_cases hv : f i < v0
      · rw [if_pos hv] at e
        exact ⟨fun b v q => by rw [e] at q; cases q; exact ⟨by omega, i, by omega, rfl⟩, fun _ => ⟨i, f i, e⟩, fun q => absurd q (by omega)⟩
      · rw [if_neg hv] at e
        exact ⟨fun b v q => by rw [e] at q; cases q; exact ⟨by omega, j, by omega, g3⟩, fun _ => ⟨b0, v0, e⟩, fun q => absurd q (by omega)⟩
def gpF (w h law : Nat) (l th ti gr : Nat → Nat) (wk : Option Nat) (hr c : Nat) : Nat := (mnF w h law ti (lkF l th gr (some c)) wk hr 0 - mnF w h law ti (lkF l th gr (some c)) wk hr 1) + (mnF w h law ti (lkF l th gr (some c)) wk hr 1 - mnF w h law ti (lkF l th gr (some c)) wk hr 0)
theorem sub_ge0 {a b : Nat} (ha : a < 2 ^ 30) (hb : b < 2 ^ 30) : (0 ≤ nI a - nI b) = (b ≤ a) := by
  apply propext
  rw [Int32.le_iff_toInt_le, pk_sub_toInt ha hb]
  have e0 : (0 : Int32).toInt = 0 := by decide
  omega
theorem neg_sub32 (x y : Int32) : 0 - (x - y) = y - x := by
  rw [Int32.zero_sub, Int32.neg_sub]
theorem mabs_sub {a b : Nat} (ha : a < 2 ^ 30) (hb : b < 2 ^ 30) : g_mabs (nI a - nI b) = nI ((a - b) + (b - a)) := by
  unfold g_mabs
  simp only [sub_ge0 ha hb]
  by_cases q : b ≤ a
  · rw [if_pos q, pk_sub q]; congr 1; omega
  · rw [if_neg q, neg_sub32, pk_sub (by omega)]; congr 1; omega
theorem fc_4 {s0 : gS} (C : CX s0 w h hr law l th ti gr lick wk) (hT : Tb s0 w h law ti (w * h)) {kk : Int32 → Int32 → gS → gR} : ∀ (n i : Nat) (s : gS), i ≤ w * h → w * h - i < n → Sm [34, 35, 36, 37, 38] s0 s → (∀ b v, lstS (gpF w h law l th ti gr wk hr) i = (some b, v) → s.1 38 8 = nI v) →
    ∃ s', Sm [34, 35, 36, 37, 38] s0 s' ∧ (∀ b v, lstS (gpF w h law l th ti gr wk hr) (w * h) = (some b, v) → s'.1 38 8 = nI v) ∧ f_X8_fairestCell_4 kk n (oI (lstS (gpF w h law l th ti gr wk hr) i).1) (nI i) s = kk (oI (lstS (gpF w h law l th ti gr wk hr) (w * h)).1) (nI (w * h)) s' := by
  intro n
  induction n with
  | zero => intro i s _ h2; omega
  | succ n ih =>
    intro i s h1 h2 hS hB
    have hn := C.1.1.n
    have C' := C.sm (hS.mono (fun k hk => by simp at hk ⊢; omega))
    have hT' : Tb s w h law ti (w * h) := by unfold Tb; rw [(hS 39 (by simp)).1, (hS 40 (by simp)).1]; exact hT
    rw [f_X8_fairestCell_4.eq_2, C'.1.2.2.2.1]
    by_cases hi : w * h ≤ i
    · have e : i = w * h := by omega
      subst e
      rw [if_pos ((nI_leI (by omega) (by omega)).mpr (Nat.le_refl _))]
      exact ⟨s, hS, hB, rfl⟩
    · have hi2 : i < w * h := by omega
      rw [if_neg (by rw [nI_leI (by omega) (by omega)]; omega), c32_0]
      obtain ⟨s1, a1, a2, a3⟩ := mwl (p := 0) (lick' := some i) C' hT' (fun q hq => by cases hq; exact hi2) (by omega)
      have S1 : Sm [34, 35, 36, 37, 38] s0 s1 := hS.tr (a1.mono (fun k hk => by simp at hk ⊢; omega))
      have C1 := C.sm (S1.mono (fun k hk => by simp at hk ⊢; omega))
      have hT1 : Tb s1 w h law ti (w * h) := by unfold Tb; rw [(S1 39 (by simp)).1, (S1 40 (by simp)).1]; exact hT
      have hF := C.F (some i)
      have hti : ∀ q, q < w * h → ti q ≤ 99 := fun q hq => (C.2.2.1 q hq).2
      have hm := mean_c (p := 1) C1.1 hti hT1 a2 (od_tot C.1.1 hF C.2.2.2.2.2.2.2.2.2.2.2 hr).1 (by omega)
      have hm0 := mnF_le (law := law) (hr := hr) (p := 0) C.1.1 hti hF C.2.2.2.2.2.2.2.2.2.2.2
      have hm1 := mnF_le (law := law) (hr := hr) (p := 1) C.1.1 hti hF C.2.2.2.2.2.2.2.2.2.2.2
      rw [show nI i = oI (some i) from rfl, a3, gb_i, c32_1, hm, gb_i]
      rw [show mnS w h law ti (odN w h (lkF l th gr (some i)) wk hr) 1 (w * h) / 1000000000 = mnF w h law ti (lkF l th gr (some i)) wk hr 1 from rfl, mabs_sub (by omega) (by omega)]
      rw [show (mnF w h law ti (lkF l th gr (some i)) wk hr 0 - mnF w h law ti (lkF l th gr (some i)) wk hr 1 + (mnF w h law ti (lkF l th gr (some i)) wk hr 1 - mnF w h law ti (lkF l th gr (some i)) wk hr 0)) = gpF w h law l th ti gr wk hr i from rfl]
      simp only [g_leti, g_let]
      have hgb : ∀ j, j < w * h → gpF w h law l th ti gr wk hr j ≤ 3960 := fun j hj => by
        have x0 := mnF_le (law := law) (hr := hr) (p := 0) C.1.1 hti (C.F (some j)) C.2.2.2.2.2.2.2.2.2.2.2
        have x1 := mnF_le (law := law) (hr := hr) (p := 1) C.1.1 hti (C.F (some j)) C.2.2.2.2.2.2.2.2.2.2.2
        unfold gpF
        omega
      have hvb := hgb i hi2
      have h38 : ∀ j, s1.1 38 j = s.1 38 j := fun j => by rw [(a1 38 (by simp)).1]
      obtain ⟨b1, b2, b3⟩ := lst_lt (gpF w h law l th ti gr wk hr) i
      have es : lstS (gpF w h law l th ti gr wk hr) (i + 1) = (match lstS (gpF w h law l th ti gr wk hr) i with | (none, _) => (some i, gpF w h law l th ti gr wk hr i) | (some b, v) => if gpF w h law l th ti gr wk hr i < v then (some i, gpF w h law l th ti gr wk hr i) else (some b, v)) := rfl
      generalize hmn : gpF w h law l th ti gr wk hr = f at *
      have put : ∀ e2 : lstS f (i + 1) = (some i, f i), ∃ s', Sm [34, 35, 36, 37, 38] s0 s' ∧ (∀ b v, lstS f (w * h) = (some b, v) → s'.1 38 8 = nI v) ∧ f_X8_fairestCell_4 kk n (oI (some i)) (oI (some i) + nI 1) (g_si s1 38 8 (nI (f i))) = kk (oI (lstS f (w * h)).1) (nI (w * h)) s' := fun e2 => by
        have hx := ih (i + 1) (g_si s1 38 8 (nI (f i))) (by omega) (by omega) (S1.tr (Sm.si (by simp))) (fun b v q => by rw [e2] at q; cases q; rw [si1]; simp)
        rw [e2] at hx
        rw [show oI (some i) + nI 1 = nI (i + 1) from nI_add i 1]
        exact hx
      rcases Nat.eq_zero_or_pos i with e0 | e0
      · have e3 := b3 e0
        rw [e3] at es ⊢
        rw [if_pos (show oI none = -nI 1 from rfl)]
        exact put es
      · obtain ⟨b, v, hb⟩ := b2 e0
        obtain ⟨g1, j, g2, g3⟩ := b1 b v hb
        rw [hb] at es ⊢
        simp only at es
        have hvj : v ≤ 3960 := by rw [g3]; exact hgb j (by omega)
        rw [if_neg (show ¬ oI (some b) = -nI 1 from nI_m1 (by omega)), h38 8, hB b v hb]
        by_cases hv : f i < v
        · rw [if_pos hv] at es
          rw [if_pos ((nI_ltI (by omega) (by omega)).mpr hv)]
          exact put es
        · rw [if_neg hv] at es
          rw [if_neg (by rw [nI_ltI (by omega) (by omega)]; exact hv)]
          have hx := ih (i + 1) s1 (by omega) (by omega) S1 (fun b' v' q => by rw [es] at q; cases q; rw [h38 8]; exact hB b v hb)
          rw [es] at hx
          rw [show oI (some i) + nI 1 = nI (i + 1) from nI_add i 1]
          exact hx
theorem fc_c {s : gS} (C : CX s w h hr law l th ti gr lick wk) (hT : Tb s w h law ti (w * h)) : ∃ s', Sm [34, 35, 36, 37, 38] s s' ∧ (∀ b v, lstS (gpF w h law l th ti gr wk hr) (w * h) = (some b, v) → s'.1 38 8 = nI v) ∧ f_X8_fairestCell s = some (some (.int (oI (lstS (gpF w h law l th ti gr wk hr) (w * h)).1)), s') := by
  have hn := C.1.1.n
  unfold f_X8_fairestCell
  obtain ⟨s', a1, a2, a3⟩ := fc_4 (kk := fun v1_8 v2_9 s10 => (some (some (.int v1_8), s10))) C hT g_N 0 s (Nat.zero_le _) (by unfold g_N; omega) Sm.rf (fun b v q => by cases q)
  refine ⟨s', a1, a2, ?_⟩
  rw [show lstS (gpF w h law l th ti gr wk hr) 0 = (none, 0) from rfl, show oI (none, 0).1 = -1 from rfl, ← c32_0] at a3
  exact a3
/-- all but the lick stays -/
def M82 (m m' : gS) : Prop := (∀ k, k ≠ 1 → m'.1 k = m.1 k) ∧ ∀ j, j ≠ 82 → m'.1 1 j = m.1 1 j
theorem M82.tr {m m' m'' : gS} (h : M82 m m') (h2 : M82 m' m'') : M82 m m'' := ⟨fun k hk => (h2.1 k hk).trans (h.1 k hk), fun j hj => (h2.2 j hj).trans (h.2 j hj)⟩
theorem M82.si {m : gS} {v : Int32} : M82 m (g_si m 1 82 v) := ⟨fun k hk => sir hk, fun j hj => by rw [si1, if_neg (fun z => hj z.2)]⟩
theorem M82.of1 {m m' : gS} (e : m'.1 = m.1) : M82 m m' := ⟨fun _ _ => by rw [e], fun _ _ => by rw [e]⟩
theorem MX.lk {m m' : gS} {lick' : Option Nat} (C : MX m w h hr law l th ti gr lick wk) (e : M82 m m') (h82 : m'.1 1 82 = oI lick') (hl : ∀ q, lick' = some q → q < w * h) : MX m' w h hr law l th ti gr lick' wk := by
  have hn := C.1.1.n
  obtain ⟨h1, h2, h3, h4, h5, h6, h7, h8, h9⟩ := C
  refine ⟨?_, ⟨?_, ?_, ?_, h82, hl⟩, ?_, ?_, h5, ?_, h7, ?_, h9⟩
  · unfold Md; rw [e.1 0 (by decide)]; exact h1
  · rw [e.1 6 (by decide)]; exact h2.1
  · rw [e.1 4 (by decide)]; exact h2.2.1
  · intro q hq; rw [e.2 q (by omega)]; exact h2.2.2.1 q hq
  · rw [e.1 5 (by decide)]; exact h3
  · rw [e.1 0 (by decide)]; exact h4
  · rw [e.2 86 (by decide)]; exact h6
  · rw [e.2 80 (by decide)]; exact h8
theorem ff_42 {m0 : gS} {v1 v2 : Int32} (C : MX m0 w h hr law l th ti gr lick wk) {kk : Int32 → Int32 → Int32 → gS → gR} : ∀ (n i : Nat) (m : gS) (x : Int32), i ≤ w * h → w * h - i < n → M82 m0 m → (i = 0 → x = 2000000000) → (∀ b v, lstS (gpF w h law l th ti gr wk hr) i = (some b, v) → x = nI v) →
    ∃ (m' : gS) (x' : Int32), M82 m0 m' ∧ (∀ b v, lstS (gpF w h law l th ti gr wk hr) (w * h) = (some b, v) → x' = nI v) ∧ f_X10_fairest_42 v1 v2 kk n (oI (lstS (gpF w h law l th ti gr wk hr) i).1) x (nI i) m = kk (oI (lstS (gpF w h law l th ti gr wk hr) (w * h)).1) x' (nI (w * h)) m' := by
  intro n
  induction n with
  | zero => intro i m x _ h2; omega
  | succ n ih =>
    intro i m x h1 h2 hS h0 hB
    have hn := C.1.1.n
    rw [f_X10_fairest_42.eq_2, cells_m (by have := C.1; unfold Md at *; rw [hS.1 0 (by decide)]; exact this), gb_i]
    by_cases hi : w * h ≤ i
    · have e : i = w * h := by omega
      subst e
      rw [if_pos ((nI_leI (by omega) (by omega)).mpr (Nat.le_refl _))]
      exact ⟨m, x, hS, hB, rfl⟩
    · have hi2 : i < w * h := by omega
      rw [if_neg (by rw [nI_leI (by omega) (by omega)]; omega), show (82 : Int32) = nI 82 from rfl, g_ixn (by omega) (by omega), nI_clamp (by omega)]
      simp only [g_let]
      have e82 : (g_si m 1 82 (nI i)).1 1 82 = oI (some i) := by rw [si1]; simp [oI]
      have C1 : MX (g_si m 1 82 (nI i)) w h hr law l th ti gr (some i) wk := C.lk (hS.tr M82.si) e82 (fun q hq => by cases hq; exact hi2)
      obtain ⟨m1, a1, a2⟩ := mean_m (p := 0) C1 (by omega)
      have C2 := C1.s1 a1.1
      obtain ⟨m2, b1, b2⟩ := mean_m (p := 1) C2 (by omega)
      have S2' : M82 m0 m2 := (hS.tr M82.si).tr ((M82.of1 a1.1).tr (M82.of1 b1.1))
      have hF := C1.F (some i)
      have hti : ∀ q, q < w * h → ti q ≤ 99 := fun q hq => (C.2.2.1 q hq).2
      have hm0 := mnF_le (law := law) (hr := hr) (p := 0) C.1.1 hti hF C.2.2.2.2.2.2.2.2
      have hm1 := mnF_le (law := law) (hr := hr) (p := 1) C.1.1 hti hF C.2.2.2.2.2.2.2.2
      rw [show f_X10_meanOf (0 : Int32) = f_X10_meanOf (nI 0) from rfl, a2, gb_i, show f_X10_meanOf (1 : Int32) = f_X10_meanOf (nI 1) from rfl, b2, gb_i]
      simp only [g_leti]
      have e1 := sub_ge0 (a := mnF w h law ti (lkF l th gr (some i)) wk hr 0) (b := mnF w h law ti (lkF l th gr (some i)) wk hr 1) (by omega) (by omega)
      simp only [e1]
      have hgb : ∀ j, j < w * h → gpF w h law l th ti gr wk hr j ≤ 3960 := fun j hj => by
        have x0 := mnF_le (law := law) (hr := hr) (p := 0) C.1.1 hti (C.F (some j)) C.2.2.2.2.2.2.2.2
        have x1 := mnF_le (law := law) (hr := hr) (p := 1) C.1.1 hti (C.F (some j)) C.2.2.2.2.2.2.2.2
        unfold gpF
        omega
      have hvb := hgb i hi2
      -- the gap on both roads
      have road : ∀ g : Int32, g = nI (gpF w h law l th ti gr wk hr i) → ∃ (m' : gS) (x' : Int32), M82 m0 m' ∧ (∀ b v, lstS (gpF w h law l th ti gr wk hr) (w * h) = (some b, v) → x' = nI v) ∧ (if x ≤ g then (if x ≤ g then f_X10_fairest_42 v1 v2 kk n (oI (lstS (gpF w h law l th ti gr wk hr) i).1) x (nI i + 1) m2 else f_X10_fairest_42 v1 v2 kk n (oI (lstS (gpF w h law l th ti gr wk hr) i).1) g (nI i + 1) m2) else (if x ≤ g then f_X10_fairest_42 v1 v2 kk n (nI i) x (nI i + 1) m2 else f_X10_fairest_42 v1 v2 kk n (nI i) g (nI i + 1) m2)) = kk (oI (lstS (gpF w h law l th ti gr wk hr) (w * h)).1) x' (nI (w * h)) m' := by
        intro g hg
        subst hg
        obtain ⟨b1', b2', b3'⟩ := lst_lt (gpF w h law l th ti gr wk hr) i
        have es : lstS (gpF w h law l th ti gr wk hr) (i + 1) = (match lstS (gpF w h law l th ti gr wk hr) i with | (none, _) => (some i, gpF w h law l th ti gr wk hr i) | (some b, v) => if gpF w h law l th ti gr wk hr i < v then (some i, gpF w h law l th ti gr wk hr i) else (some b, v)) := rfl
        generalize hmn : gpF w h law l th ti gr wk hr = f at *
        have put : ∀ e2 : lstS f (i + 1) = (some i, f i), ∃ (m' : gS) (x' : Int32), M82 m0 m' ∧ (∀ b v, lstS f (w * h) = (some b, v) → x' = nI v) ∧ f_X10_fairest_42 v1 v2 kk n (nI i) (nI (f i)) (nI i + 1) m2 = kk (oI (lstS f (w * h)).1) x' (nI (w * h)) m' := fun e2 => by
          have hx := ih (i + 1) m2 (nI (f i)) (by omega) (by omega) S2' (fun e => by omega) (fun b v q => by rw [e2] at q; cases q; rfl)
          rw [e2, ← nI_1] at hx
          exact hx
        rcases Nat.eq_zero_or_pos i with e0 | e0
        · have e3 := b3' e0
          rw [e3] at es ⊢
          have hneg : ¬ x ≤ nI (f i) := by
            rw [h0 e0, show (2000000000 : Int32) = nI 2000000000 from rfl, nI_leI (by omega) (by omega)]
            omega
          rw [if_neg hneg, if_neg hneg]
          exact put es
        · obtain ⟨b, v, hb⟩ := b2' e0
          obtain ⟨g1, j, g2, g3⟩ := b1' b v hb
          rw [hb] at es ⊢
          simp only at es
          have hvj : v ≤ 3960 := by rw [g3]; exact hgb j (by omega)
          rw [hB b v hb]
          by_cases hv : f i < v
          · rw [if_pos hv] at es
            rw [if_neg (by rw [nI_leI (by omega) (by omega)]; omega), if_neg (by rw [nI_leI (by omega) (by omega)]; omega)]
            exact put es
          · rw [if_neg hv] at es
            rw [if_pos ((nI_leI (by omega) (by omega)).mpr (by omega)), if_pos ((nI_leI (by omega) (by omega)).mpr (by omega))]
            have hx := ih (i + 1) m2 (nI v) (by omega) (by omega) S2' (fun e => by omega) (fun b' v' q => by rw [es] at q; cases q; rfl)
            rw [es, ← nI_1] at hx
            exact hx
      by_cases q : mnF w h law ti (lkF l th gr (some i)) wk hr 1 ≤ mnF w h law ti (lkF l th gr (some i)) wk hr 0
      · rw [if_pos q]
        exact road _ (by rw [pk_sub q]; congr 1; unfold gpF; omega)
      · rw [if_neg q]
        exact road _ (by rw [Int32.neg_sub, pk_sub (by omega)]; congr 1; unfold gpF; omega)
end RST
