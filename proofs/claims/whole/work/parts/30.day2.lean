/-! The days -/
theorem LR.now {c c' m m' : gS} {w h hr : Nat} {l th ti : Nat → Nat} (L : LR c m w h hr l th ti) (hc : Sm [22, 23, 24] c c') (hm : ∀ k, k ≠ 1 → m'.1 k = m.1 k) : LR c' m' w h hr l th ti := by
  have e : ∀ k, k ∉ [22, 23, 24] → c'.1 k = c.1 k := fun k hk => (hc k hk).1
  obtain ⟨a1, a2, a3, a4, a5, a6, a7⟩ := L
  unfold Md at a2
  refine ⟨a1.congr (fun k x y => e k (by simp; omega)), ?_, ?_, a4.congr (fun k x y => e k (by simp; omega)), ?_, ?_, ?_⟩
  · unfold Md; rw [hm 0 (by decide)]; exact a2
  · rw [e 14 (by decide), hm 0 (by decide)]; exact a3
  · rw [hm 6 (by decide)]; exact a5
  · rw [hm 4 (by decide)]; exact a6
  · rw [e 19 (by decide), hm 5 (by decide)]; exact a7
section DAY
variable {w h hr law : Nat} {l th ti : Nat → Nat} {lick : Option Nat}
theorem hours_s {c0 m0 : gS} (M0 : Md m0 w h) (hh : m0.1 0 7 = nI hr) (hr8 : hr ≤ 8) : ∀ (d n n' i p sd : Nat) (gr : Nat → Nat) (c m : gS), hr - i = d → i ≤ hr → d < n → d < n' → CX c w h hr law l th ti gr lick (some p) → LkM m (w * h) l th gr lick → (Sm [22, 23] c0 c ∧ ∀ j, j ≠ 3 → j ≠ 10 → c.1 22 j = c0.1 22 j) → ((∀ k, k ≠ 1 → m.1 k = m0.1 k) ∧ ∀ j, w * h ≤ j → j ≠ 87 → m.1 1 j = m0.1 1 j) → (c.1 22 10 = nI sd ∧ m.1 1 87 = nI sd ∧ sd < 2 ^ 31) →
    ∃ (t sd' : Nat) (gr' : Nat → Nat) (c' m' : gS), CX c' w h hr law l th ti gr' lick (some t) ∧ LkM m' (w * h) l th gr' lick ∧ (Sm [22, 23] c0 c' ∧ ∀ j, j ≠ 3 → j ≠ 10 → c'.1 22 j = c0.1 22 j) ∧ ((∀ k, k ≠ 1 → m'.1 k = m0.1 k) ∧ ∀ j, w * h ≤ j → j ≠ 87 → m'.1 1 j = m0.1 1 j) ∧ (c'.1 22 10 = nI sd' ∧ m'.1 1 87 = nI sd' ∧ sd' < 2 ^ 31) ∧ (∀ kc : Int32 → gS → gR, f_X4_passDay_2 22 kc n (nI i) c = kc (nI hr) c') ∧ ∀ (v1 v2 : Int32) (km : Int32 → Int32 → gS → gR), f_X10_day_44 v1 v2 km n' (nI p) (nI i) m = km (nI t) (nI hr) m' := by
  intro d
  induction d with
  | zero =>
    intro n n' i p sd gr c m h1 h2 h3 h4 C K hc hm hs
    obtain ⟨n0, rfl⟩ : ∃ k, n = k + 1 := ⟨n - 1, by omega⟩
    obtain ⟨n0', rfl⟩ : ∃ k, n' = k + 1 := ⟨n' - 1, by omega⟩
    have e : i = hr := by omega
    subst e
    refine ⟨p, sd, gr, c, m, C, K, hc, hm, hs, fun kc => ?_, fun v1 v2 km => ?_⟩
    · rw [f_X4_passDay_2.eq_2, C.2.2.2.2.1, if_pos ((nI_leI (by omega) (by omega)).mpr (Nat.le_refl _))]
    · rw [f_X10_day_44.eq_2, hm.1 0 (by decide), hh, if_pos ((nI_leI (by omega) (by omega)).mpr (Nat.le_refl _))]
  | succ d ih =>
    intro n n' i p sd gr c m h1 h2 h3 h4 C K hc hm hs
    obtain ⟨n0, rfl⟩ : ∃ k, n = k + 1 := ⟨n - 1, by omega⟩
    obtain ⟨n0', rfl⟩ : ∃ k, n' = k + 1 := ⟨n' - 1, by omega⟩
    have M : Md m w h := by unfold Md at *; rw [hm.1 0 (by decide)]; exact M0
    obtain ⟨t, sd', gr', c', m', C', K', hc', hm', hs', ec, em⟩ := hour_s C M K hs.1 hs.2.1 hs.2.2
    obtain ⟨t2, sd2, gr2, c2, m2, C2, K2, hc2, hm2, hs2, ec2, em2⟩ := ih n0 n0' (i + 1) t sd' gr' c' m' (by omega) (by omega) (by omega) (by omega) C' K' ⟨hc.1.tr hc'.1, fun j a b => (hc'.2 j a b).trans (hc.2 j a b)⟩ ⟨fun k hk => (hm'.1 k hk).trans (hm.1 k hk), fun j a b => (hm'.2 j a b).trans (hm.2 j a b)⟩ hs'
    refine ⟨t2, sd2, gr2, c2, m2, C2, K2, hc2, hm2, hs2, fun kc => ?_, fun v1 v2 km => ?_⟩
    · rw [f_X4_passDay_2.eq_2, C.2.2.2.2.1, if_neg (by rw [nI_leI (by omega) (by omega)]; omega), nI_1, ec (fun s4 => f_X4_passDay_2 22 kc n0 (nI (i + 1)) s4)]
      exact ec2 kc
    · rw [f_X10_day_44.eq_2, hm.1 0 (by decide), hh, if_neg (by rw [nI_leI (by omega) (by omega)]; omega), em, gb_i, nI_1]
      exact em2 v1 v2 km
def grw (gr fg : Nat → Nat) (q : Nat) : Nat := if fg q ≤ gr q then gr q else gr q + 1
theorem grow_c {c0 : gS} {n0 : Nat} {gr fg : Nat → Nat} (hn : n0 ≤ 40) (hg : ∀ q, q < n0 → c0.1 23 q = nI (gr q) ∧ gr q ≤ 18 ∧ c0.1 24 q = nI (fg q) ∧ fg q ≤ 18) {k : Int32 → gS → gR} : ∀ (n i : Nat) (c : gS), i ≤ 40 → 40 - i < n → Sm [23] c0 c → (∀ q, q < n0 → q < i → c.1 23 q = nI (grw gr fg q)) → (∀ q, i ≤ q → c.1 23 q = c0.1 23 q) →
    ∃ c', Sm [23] c0 c' ∧ (∀ q, q < n0 → c'.1 23 q = nI (grw gr fg q)) ∧ f_X4_growByNight_2 22 k n (nI i) c = k (nI 40) c' := by
  intro n
  induction n with
  | zero => intro i c _ h2; omega
  | succ n ih =>
    intro i c h1 h2 hS hA hB
    rw [f_X4_growByNight_2.eq_2, c32_40]
    by_cases hi : 40 ≤ i
    · have e : i = 40 := by omega
      subst e
      rw [if_pos ((nI_leI (by omega) (by omega)).mpr (Nat.le_refl _))]
      exact ⟨c, hS, fun q hq => hA q hq (by omega), rfl⟩
    · rw [if_neg (by rw [nI_leI (by omega) (by omega)]; omega), g_ixn (by omega) (by omega), g_ixn (by omega) (by omega), nI_clamp (by omega), nI_1, show (22 + 1 : Nat) = 23 from rfl, show (22 + 2 : Nat) = 24 from rfl, (hS 24 (by simp)).1, hB i (Nat.le_refl _)]
      by_cases e : c0.1 24 i ≤ c0.1 23 i
      · rw [if_pos e]
        refine ih (i + 1) c (by omega) (by omega) hS (fun q a b => ?_) (fun q a => hB q (by omega))
        by_cases eq : q = i
        · subst eq
          rw [hB q (Nat.le_refl _)]
          obtain ⟨g1, g2, g3, g4⟩ := hg q a
          rw [g1, g3, nI_leI (by omega) (by omega)] at e
          rw [g1]
          unfold grw; rw [if_pos e]
        · exact hA q a (by omega)
      · rw [if_neg e, g_ixn (by omega) (by omega), g_ixn (by omega) (by omega)]
        simp only [g_let]
        refine ih (i + 1) _ (by omega) (by omega) (hS.tr (Sm.si (by simp))) (fun q a b => ?_) (fun q a => by rw [si_nj (by omega)]; exact hB q (by omega))
        by_cases eq : q = i
        · subst eq
          obtain ⟨g1, g2, g3, g4⟩ := hg q a
          rw [g1, g3, nI_leI (by omega) (by omega)] at e
          rw [si_eq, g1, nI_1]
          unfold grw; rw [if_neg e]
        · rw [si_nj eq]; exact hA q a (by omega)
theorem grow_m {m0 : gS} {gr fg : Nat → Nat} (M : Md m0 w h) (hg : ∀ q, q < w * h → m0.1 1 q = nI (gr q) ∧ gr q ≤ 18 ∧ m0.1 1 (40 + q) = nI (fg q) ∧ fg q ≤ 18) : ∀ (n i : Nat) (m : gS), i ≤ w * h → w * h - i < n → (∀ r, r ≠ 1 → m.1 r = m0.1 r) → (∀ j, w * h ≤ j → m.1 1 j = m0.1 1 j) → (∀ q, q < i → m.1 1 q = nI (grw gr fg q)) → (∀ q, i ≤ q → m.1 1 q = m0.1 1 q) →
    ∃ m', (∀ r, r ≠ 1 → m'.1 r = m0.1 r) ∧ (∀ j, w * h ≤ j → m'.1 1 j = m0.1 1 j) ∧ (∀ q, q < w * h → m'.1 1 q = nI (grw gr fg q)) ∧ ∀ (v1 v2 v3 : Int32) (k : Int32 → gS → gR), f_X10_day_108 v1 v2 v3 k n (nI i) m = k (nI (w * h)) m' := by
  intro n
  induction n with
  | zero => intro i m _ h2; omega
  | succ n ih =>
    intro i m h1 h2 hr hj hA hB
    have hn := M.1.n
    have M' : Md m w h := by unfold Md at *; rw [hr 0 (by decide)]; exact M
    by_cases hi : w * h ≤ i
    · have e : i = w * h := by omega
      subst e
      refine ⟨m, hr, hj, hA, fun v1 v2 v3 k => ?_⟩
      rw [f_X10_day_108.eq_2, cells_m M', gb_i, if_pos ((nI_leI (by omega) (by omega)).mpr (Nat.le_refl _))]
    · obtain ⟨g1, g2, g3, g4⟩ := hg i (by omega)
      have hh : (¬ nI (w * h) ≤ nI i) := by rw [nI_leI (by omega) (by omega)]; omega
      by_cases e : nI (fg i) ≤ nI (gr i)
      · have e' := e
        rw [nI_leI (by omega) (by omega)] at e'
        obtain ⟨m', a1, a2, a3, a4⟩ := ih (i + 1) (g_si m 1 i (nI (gr i))) (by omega) (by omega) (fun r z => (sir z).trans (hr r z)) (fun j z => by rw [si_nj (by omega)]; exact hj j z) (fun q z => by
          by_cases eq : q = i
          · subst eq
            rw [si_eq]
            unfold grw; rw [if_pos e']
          · rw [si_nj eq]; exact hA q (by omega)) (fun q z => by rw [si_nj (by omega)]; exact hB q (by omega))
        refine ⟨m', a1, a2, a3, fun v1 v2 v3 k => ?_⟩
        rw [f_X10_day_108.eq_2, cells_m M', gb_i, if_neg hh, c32_0, c32_40, nI_add, nI_add, Nat.zero_add, g_ixn (by omega) (by omega), g_ixn (by omega) (by omega), g_ixn (by omega) (by omega), nI_clamp (by omega), nI_clamp (by omega), hB i (Nat.le_refl _), hj (40 + i) (by omega), g1, g3, nI_1, if_pos e, g_ixn (by omega) (by omega)]
        simp only [g_let]
        rw [nI_add, Nat.add_zero]
        exact a4 v1 v2 v3 k
      · have e' := e
        rw [nI_leI (by omega) (by omega)] at e'
        obtain ⟨m', a1, a2, a3, a4⟩ := ih (i + 1) (g_si m 1 i (nI (gr i + 1))) (by omega) (by omega) (fun r z => (sir z).trans (hr r z)) (fun j z => by rw [si_nj (by omega)]; exact hj j z) (fun q z => by
          by_cases eq : q = i
          · subst eq
            rw [si_eq]
            unfold grw; rw [if_neg e']
          · rw [si_nj eq]; exact hA q (by omega)) (fun q z => by rw [si_nj (by omega)]; exact hB q (by omega))
        refine ⟨m', a1, a2, a3, fun v1 v2 v3 k => ?_⟩
        rw [f_X10_day_108.eq_2, cells_m M', gb_i, if_neg hh, c32_0, c32_40, nI_add, nI_add, Nat.zero_add, g_ixn (by omega) (by omega), g_ixn (by omega) (by omega), g_ixn (by omega) (by omega), nI_clamp (by omega), nI_clamp (by omega), hB i (Nat.le_refl _), hj (40 + i) (by omega), g1, g3, nI_1, if_neg e, g_ixn (by omega) (by omega)]
        simp only [g_let]
        rw [nI_1]
        exact a4 v1 v2 v3 k
theorem grw_le {gr fg : Nat → Nat} {q : Nat} (h1 : gr q ≤ 18) (h2 : fg q ≤ 18) : grw gr fg q ≤ 18 := by
  unfold grw; split <;> omega
end DAY
