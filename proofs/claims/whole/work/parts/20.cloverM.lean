/-! Clover, the reference's -/
def M2 (m m' : gS) : Prop := (∀ j, j ≠ 42 → m'.1 0 j = m.1 0 j) ∧ ∀ k, k ≠ 0 → k ≠ 20 → m'.1 k = m.1 k
theorem M2.rf {m : gS} : M2 m m := ⟨fun _ _ => rfl, fun _ _ _ => rfl⟩
theorem M2.tr {m m' m'' : gS} (h : M2 m m') (h2 : M2 m' m'') : M2 m m'' := ⟨fun j hj => (h2.1 j hj).trans (h.1 j hj), fun k a b => (h2.2 k a b).trans (h.2 k a b)⟩
theorem M2.of1 {m m' : gS} (e : m'.1 = m.1) : M2 m m' := ⟨fun _ _ => by rw [e], fun _ _ _ => by rw [e]⟩
theorem MX.m2 {m m' : gS} {w h hr law : Nat} {l th ti gr : Nat → Nat} {lick wk : Option Nat} (C : MX m w h hr law l th ti gr lick wk) (e : M2 m m') : MX m' w h hr law l th ti gr lick wk := by
  unfold MX Md LkM at *
  rw [e.1 3 (by decide), e.1 4 (by decide), e.1 7 (by decide), e.2 1 (by decide) (by decide), e.2 4 (by decide) (by decide), e.2 5 (by decide) (by decide), e.2 6 (by decide) (by decide)]
  exact C
theorem keep_l {m0 : gS} {k : Int32 → gS → gR} : ∀ (n i : Nat) (m : gS), i ≤ 80 → 80 - i < n → (∀ r, r ≠ 20 → m.1 r = m0.1 r) → (∀ q, q < i → m.1 20 q = m0.1 1 q) → ∃ m', (∀ r, r ≠ 20 → m'.1 r = m0.1 r) ∧ (∀ q, q < 80 → m'.1 20 q = m0.1 1 q) ∧ f_X10_keepGrass_2 k n (nI i) m = k (nI 80) m' := by
  intro n
  induction n with
  | zero => intro i m _ h2; omega
  | succ n ih =>
    intro i m h1 h2 hS hz
    rw [f_X10_keepGrass_2.eq_2]
    by_cases hi : 80 ≤ i
    · have e : i = 80 := by omega
      subst e
      rw [if_pos (by decide)]
      exact ⟨m, hS, hz, rfl⟩
    · rw [c32_80, if_neg (by rw [nI_leI (by omega) (by omega)]; omega), c32_0, nI_add, Nat.zero_add, g_ixn (by omega) (by omega), g_ixn (by omega) (by omega), nI_clamp (by omega), nI_1]
      simp only [g_let]
      refine ih (i + 1) _ (by omega) (by omega) (fun r hr => (sir hr).trans (hS r hr)) (fun q hq => ?_)
      rw [si1]
      by_cases e : q = i
      · subst e; rw [if_pos ⟨rfl, rfl⟩, hS 1 (by decide)]
      · rw [if_neg (fun z => e z.2)]; exact hz q (by omega)
theorem keep_m (m : gS) : ∃ m', (∀ r, r ≠ 20 → m'.1 r = m.1 r) ∧ (∀ q, q < 80 → m'.1 20 q = m.1 1 q) ∧ f_X10_keepGrass m = some (none, m') := by
  unfold f_X10_keepGrass
  exact keep_l (k := fun v1_2 s3 => (some (none, s3))) g_N 0 m (by omega) (by unfold g_N; omega) (fun _ _ => rfl) (fun q hq => by omega)
theorem give_l {m0 : gS} {k : Int32 → gS → gR} : ∀ (n i : Nat) (m : gS), i ≤ 80 → 80 - i < n → (∀ r, r ≠ 1 → m.1 r = m0.1 r) → (∀ q, q < i → m.1 1 q = m0.1 20 q) → (∀ q, i ≤ q → m.1 1 q = m0.1 1 q) → ∃ m', (∀ r, r ≠ 1 → m'.1 r = m0.1 r) ∧ (∀ q, q < 80 → m'.1 1 q = m0.1 20 q) ∧ (∀ q, 80 ≤ q → m'.1 1 q = m0.1 1 q) ∧ f_X10_giveGrass_2 k n (nI i) m = k (nI 80) m' := by
  intro n
  induction n with
  | zero => intro i m _ h2; omega
  | succ n ih =>
    intro i m h1 h2 hS hz hq
    rw [f_X10_giveGrass_2.eq_2]
    by_cases hi : 80 ≤ i
    · have e : i = 80 := by omega
      subst e
      rw [if_pos (by decide)]
      exact ⟨m, hS, hz, hq, rfl⟩
    · rw [c32_80, if_neg (by rw [nI_leI (by omega) (by omega)]; omega), c32_0, nI_add, Nat.zero_add, g_ixn (by omega) (by omega), g_ixn (by omega) (by omega), nI_clamp (by omega), nI_1]
      simp only [g_let]
      refine ih (i + 1) _ (by omega) (by omega) (fun r hr => (sir hr).trans (hS r hr)) (fun q hq2 => ?_) (fun q hq2 => ?_)
      · rw [si1]
        by_cases e : q = i
        · subst e; rw [if_pos ⟨rfl, rfl⟩, hS 20 (by decide)]
        · rw [if_neg (fun z => e z.2)]; exact hz q (by omega)
      · rw [si1, if_neg (fun z => by omega)]; exact hq q (by omega)
theorem give_m (m : gS) : ∃ m', (∀ r, r ≠ 1 → m'.1 r = m.1 r) ∧ (∀ q, q < 80 → m'.1 1 q = m.1 20 q) ∧ (∀ q, 80 ≤ q → m'.1 1 q = m.1 1 q) ∧ f_X10_giveGrass m = some (none, m') := by
  unfold f_X10_giveGrass
  exact give_l (k := fun v1_2 s3 => (some (none, s3))) g_N 0 m (by omega) (by unfold g_N; omega) (fun _ _ => rfl) (fun q hq => by omega) (fun _ _ => rfl)
theorem sow_m {m : gS} {q g f k : Nat} (hq : q < 40) (hg : m.1 1 q = nI g) (hf : m.1 1 (40 + q) = nI f) (hg2 : g ≤ 18) (hf2 : f ≤ 18) (hk : k ≤ 9) : f_X10_sowOn (nI q) (nI k) m = some (none, g_si (g_si m 1 q (nI (min 18 (g + k)))) 1 (40 + q) (nI (min 18 (f + k)))) := by
  unfold f_X10_sowOn
  rw [c32_0, c32_40, nI_add, nI_add, Nat.zero_add]
  simp (disch := omega) only [g_ixn, g_leti, g_let, nI_clamp, hg, hf, nI_add, c32_18, nI_leI]
  have e1 : (if g + k ≤ 18 then g + k else 18) = min 18 (g + k) := by split <;> omega
  have e2 : (if f + k ≤ 18 then f + k else 18) = min 18 (f + k) := by split <;> omega
  rw [← e1, ← e2]
  by_cases h1 : g + k ≤ 18 <;> by_cases h2 : f + k ≤ 18 <;> simp [h1, h2]
section CLM
variable {w h hr law : Nat} {l th ti gr fg : Nat → Nat} {lick wk : Option Nat}
def FG (m : gS) (n : Nat) (fg : Nat → Nat) : Prop := ∀ q, q < n → m.1 1 (40 + q) = nI (fg q) ∧ fg q ≤ 18
theorem MX.sow {m : gS} {q k : Nat} (C : MX m w h hr law l th ti gr lick wk) (hF : FG m (w * h) fg) (hq : q < w * h) : MX (g_si (g_si m 1 q (nI (min 18 (gr q + k)))) 1 (40 + q) (nI (min 18 (fg q + k)))) w h hr law l th ti (updN gr q (min 18 (gr q + k))) lick wk ∧ FG (g_si (g_si m 1 q (nI (min 18 (gr q + k)))) 1 (40 + q) (nI (min 18 (fg q + k)))) (w * h) (updN fg q (min 18 (fg q + k))) := by
  have hn := C.1.1.n
  obtain ⟨h1, h2, h3, h4, h5, h6, h7, h8, h9⟩ := C
  have er : ∀ r, r ≠ 1 → (g_si (g_si m 1 q (nI (min 18 (gr q + k)))) 1 (40 + q) (nI (min 18 (fg q + k)))).1 r = m.1 r := fun r hr => (sir hr).trans (sir hr)
  have e1 : ∀ j, j ≠ q → j ≠ 40 + q → (g_si (g_si m 1 q (nI (min 18 (gr q + k)))) 1 (40 + q) (nI (min 18 (fg q + k)))).1 1 j = m.1 1 j := fun j a b => by
    rw [si1, if_neg (fun z => b z.2), si1, if_neg (fun z => a z.2)]
  refine ⟨⟨?_, ⟨?_, ?_, ?_, ?_, h2.2.2.2.2⟩, ?_, ?_, h5, ?_, h7, ?_, h9⟩, ?_⟩
  · unfold Md; rw [er 0 (by decide)]; exact h1
  · rw [er 6 (by decide)]; exact h2.1
  · rw [er 4 (by decide)]; exact h2.2.1
  · intro j hj
    unfold updN
    by_cases e : j = q
    · subst e
      rw [if_pos rfl, si1, if_neg (fun z => by omega), si1, if_pos ⟨rfl, rfl⟩]
      exact ⟨rfl, Nat.min_le_left _ _⟩
    · rw [if_neg e, e1 j e (by omega)]; exact h2.2.2.1 j hj
  · rw [e1 82 (by omega) (by omega)]; exact h2.2.2.2.1
  · rw [er 5 (by decide)]; exact h3
  · rw [er 0 (by decide)]; exact h4
  · rw [e1 86 (by omega) (by omega)]; exact h6
  · rw [e1 80 (by omega) (by omega)]; exact h8
  · intro j hj
    unfold updN
    by_cases e : j = q
    · subst e
      rw [if_pos rfl, si1, if_pos ⟨rfl, rfl⟩]
      exact ⟨rfl, Nat.min_le_left _ _⟩
    · rw [if_neg e, e1 (40 + j) (by omega) (by omega)]; exact hF j hj
/-- one trial of the reference: the grass kept, sown, the mean, given back -/
theorem trialM {m : gS} {p k c : Nat} {o : Option Nat} (C : MX m w h hr law l th ti gr lick wk) (hF : FG m (w * h) fg) (hc : c < w * h) (ho : ∀ q, o = some q → q < w * h) (hp : p < 2) (hk : k ≤ 9) :
    ∃ mA m', f_X10_keepGrass m = some (none, mA) ∧ M2 m m' ∧ m'.1 0 42 = m.1 0 42 ∧
      (o = none → ∃ mB mC, f_X10_sowOn (nI c) (nI k) mA = some (none, mB) ∧ f_X10_meanOf (nI p) mB = some (some (.int (nI (mnC w h law l th ti gr lick wk hr p k o c))), mC) ∧ f_X10_giveGrass mC = some (none, m')) ∧
      (∀ q, o = some q → ∃ mB0 mB mC, f_X10_sowOn (nI q) (nI k) mA = some (none, mB0) ∧ f_X10_sowOn (nI c) (nI k) mB0 = some (none, mB) ∧ f_X10_meanOf (nI p) mB = some (some (.int (nI (mnC w h law l th ti gr lick wk hr p k o c))), mC) ∧ f_X10_giveGrass mC = some (none, m')) := by
  have hn := C.1.1.n
  obtain ⟨mA, a1, a2, a3⟩ := keep_m m
  have MA : M2 m mA := ⟨fun j _ => by rw [a1 0 (by decide)], fun r _ hr => a1 r hr⟩
  have CA := C.m2 MA
  have FA : FG mA (w * h) fg := by unfold FG; rw [a1 1 (by decide)]; exact hF
  -- given back: row 1 is as it was
  have back : ∀ mB mC : gS, (∀ r, r ≠ 1 → mB.1 r = mA.1 r) → (∀ j, 80 ≤ j → mB.1 1 j = mA.1 1 j) → mC.1 = mB.1 → ∀ mD, (∀ r, r ≠ 1 → mD.1 r = mC.1 r) → (∀ q, q < 80 → mD.1 1 q = mC.1 20 q) → (∀ q, 80 ≤ q → mD.1 1 q = mC.1 1 q) → M2 m mD ∧ mD.1 0 42 = m.1 0 42 := by
    intro mB mC hB hB2 hC mD d1 d2 d3
    have e1 : ∀ r, r ≠ 1 → r ≠ 20 → mD.1 r = m.1 r := fun r h1 h2 => by rw [d1 r h1, hC, hB r h1, a1 r h2]
    have eR : mD.1 1 = m.1 1 := by
      funext j
      by_cases hj : j < 80
      · rw [d2 j hj, hC, hB 20 (by decide), a2 j hj]
      · rw [d3 j (by omega), hC, hB2 j (by omega), a1 1 (by decide)]
    refine ⟨⟨fun j _ => by rw [e1 0 (by decide) (by decide)], fun r h1 h2 => ?_⟩, by rw [e1 0 (by decide) (by decide)]⟩
    by_cases hr : r = 1
    · subst hr; exact eR
    · exact e1 r hr h2
  have rowS : ∀ (m1 : gS) (q : Nat) (v1 v2 : Int32), q < 40 → (∀ r, r ≠ 1 → (g_si (g_si m1 1 q v1) 1 (40 + q) v2).1 r = m1.1 r) ∧ ∀ j, 80 ≤ j → (g_si (g_si m1 1 q v1) 1 (40 + q) v2).1 1 j = m1.1 1 j := fun m1 q v1 v2 hq =>
    ⟨fun r hr => (sir hr).trans (sir hr), fun j hj => by rw [si1, if_neg (fun z => by omega), si1, if_neg (fun z => by omega)]⟩
  cases ho2 : o with
  | none =>
    subst ho2
    have hs := sow_m (k := k) (show c < 40 by omega) (CA.2.1.2.2.1 c hc).1 (FA c hc).1 (CA.2.1.2.2.1 c hc).2 (FA c hc).2 hk
    obtain ⟨CB, FB⟩ := CA.sow (k := k) FA hc
    obtain ⟨mC, c1, c2⟩ := mean_m (p := p) CB hp
    obtain ⟨mD, d1, d2, d3, d4⟩ := give_m mC
    obtain ⟨r1, r2⟩ := rowS mA c (nI (min 18 (gr c + k))) (nI (min 18 (fg c + k))) (by omega)
    obtain ⟨g1, g2⟩ := back _ mC r1 r2 c1.1 mD d1 d2 d3
    have e : grC gr k none c = updN gr c (min 18 (gr c + k)) := by
      unfold grC
      have e : grO gr k none = gr := by funext q; simp [grO]
      rw [e]
    refine ⟨mA, mD, a3, g1, g2, fun _ => ⟨_, mC, hs, ?_, d4⟩, fun q hq => by cases hq⟩
    unfold mnC
    rw [e]
    exact c2
  | some q =>
    subst ho2
    have hq := ho q rfl
    have hs0 := sow_m (k := k) (show q < 40 by omega) (CA.2.1.2.2.1 q hq).1 (FA q hq).1 (CA.2.1.2.2.1 q hq).2 (FA q hq).2 hk
    obtain ⟨C0, F0⟩ := CA.sow (k := k) FA hq
    obtain ⟨r1, r2⟩ := rowS mA q (nI (min 18 (gr q + k))) (nI (min 18 (fg q + k))) (by omega)
    have hs := sow_m (k := k) (show c < 40 by omega) (C0.2.1.2.2.1 c hc).1 (F0 c hc).1 (C0.2.1.2.2.1 c hc).2 (F0 c hc).2 hk
    obtain ⟨CB, FB⟩ := C0.sow (k := k) F0 hc
    obtain ⟨mC, c1, c2⟩ := mean_m (p := p) CB hp
    obtain ⟨mD, d1, d2, d3, d4⟩ := give_m mC
    generalize hm0 : g_si (g_si mA 1 q (nI (min 18 (gr q + k)))) 1 (40 + q) (nI (min 18 (fg q + k))) = mB0 at *
    obtain ⟨t1, t2⟩ := rowS mB0 c (nI (min 18 (updN gr q (min 18 (gr q + k)) c + k))) (nI (min 18 (updN fg q (min 18 (fg q + k)) c + k))) (by omega)
    obtain ⟨g1, g2⟩ := back _ mC (fun r hr => (t1 r hr).trans (r1 r hr)) (fun j hj => (t2 j hj).trans (r2 j hj)) c1.1 mD d1 d2 d3
    have e : grC gr k (some q) c = updN (updN gr q (min 18 (gr q + k))) c (min 18 (updN gr q (min 18 (gr q + k)) c + k)) := by
      unfold grC
      have e : grO gr k (some q) = updN gr q (min 18 (gr q + k)) := by
        funext j
        unfold updN grO
        by_cases ej : j = q
        · subst ej; simp
        · rw [if_neg ej, if_neg (fun z => ej (Option.some.inj z).symm)]
      rw [e]
    refine ⟨mA, mD, a3, g1, g2, (fun h0 => by cases h0), fun q2 hq2 => ?_⟩
    cases hq2
    refine ⟨mB0, _, mC, hs0, hs, ?_, d4⟩
    unfold mnC
    rw [e]
    exact c2
theorem bc_13 {m0 : gS} {p k : Nat} {o : Option Nat} (C : MX m0 w h hr law l th ti gr lick wk) (hF : FG m0 (w * h) fg) (hp : p < 2) (hk : k ≤ 9) (ho : ∀ q, o = some q → q < w * h) {kk : Int32 → Int32 → gS → gR} : ∀ (n i : Nat) (m : gS), i ≤ w * h → w * h - i < n → M2 m0 m → (i = 0 → m.1 0 42 = -2000000000) → (∀ b v, bstS (mnC w h law l th ti gr lick wk hr p k o) i = (some b, v) → m.1 0 42 = nI v) →
    ∃ m', M2 m0 m' ∧ (∀ b v, bstS (mnC w h law l th ti gr lick wk hr p k o) (w * h) = (some b, v) → m'.1 0 42 = nI v) ∧ f_X10_bestClover_13 (nI p) (nI k) (oI o) kk n (oI (bstS (mnC w h law l th ti gr lick wk hr p k o) i).1) (nI i) m = kk (oI (bstS (mnC w h law l th ti gr lick wk hr p k o) (w * h)).1) (nI (w * h)) m' := by
  intro n
  induction n with
  | zero => intro i m _ h2; omega
  | succ n ih =>
    intro i m h1 h2 hS h0 hB
    have hn := C.1.1.n
    have C' := C.m2 hS
    have F' : FG m (w * h) fg := by unfold FG; rw [hS.2 1 (by decide) (by decide)]; exact hF
    rw [f_X10_bestClover_13.eq_2, cells_m C'.1, gb_i]
    by_cases hi : w * h ≤ i
    · have e : i = w * h := by omega
      subst e
      rw [if_pos ((nI_leI (by omega) (by omega)).mpr (Nat.le_refl _))]
      exact ⟨m, hS, hB, rfl⟩
    · have hi2 : i < w * h := by omega
      rw [if_neg (by rw [nI_leI (by omega) (by omega)]; omega)]
      obtain ⟨mA, m1, t1, t2, t3, t4, t5⟩ := trialM (p := p) (k := k) (o := o) C' F' hi2 ho hp hk
      rw [t1, gb_v]
      have S1 := hS.tr t2
      have mb : ∀ j, j < w * h → mnC w h law l th ti gr lick wk hr p k o j ≤ 3960 := fun j hj => mnF_le C.1.1 (fun q hq => (C.2.2.1 q hq).2) (fun t ht => lkF_le (fun j hj => (C.2.1.1 j hj).2) (by unfold grC updN; split; exact Nat.min_le_left _ _; exact grO_le (C.2.1.2.2.1 t ht).2)) C.2.2.2.2.2.2.2.2
      have hvb := mb i hi2
      have tail : ∃ m', M2 m0 m' ∧ (∀ b v, bstS (mnC w h law l th ti gr lick wk hr p k o) (w * h) = (some b, v) → m'.1 0 42 = nI v) ∧ (if nI (mnC w h law l th ti gr lick wk hr p k o i) ≤ m1.1 0 42 then (if nI (mnC w h law l th ti gr lick wk hr p k o i) ≤ m1.1 0 42 then f_X10_bestClover_13 (nI p) (nI k) (oI o) kk n (oI (bstS (mnC w h law l th ti gr lick wk hr p k o) i).1) (nI i + 1) (g_si m1 0 42 (m1.1 0 42)) else f_X10_bestClover_13 (nI p) (nI k) (oI o) kk n (oI (bstS (mnC w h law l th ti gr lick wk hr p k o) i).1) (nI i + 1) (g_si m1 0 42 (nI (mnC w h law l th ti gr lick wk hr p k o i)))) else (if nI (mnC w h law l th ti gr lick wk hr p k o i) ≤ m1.1 0 42 then f_X10_bestClover_13 (nI p) (nI k) (oI o) kk n (nI i) (nI i + 1) (g_si m1 0 42 (m1.1 0 42)) else f_X10_bestClover_13 (nI p) (nI k) (oI o) kk n (nI i) (nI i + 1) (g_si m1 0 42 (nI (mnC w h law l th ti gr lick wk hr p k o i))))) = kk (oI (bstS (mnC w h law l th ti gr lick wk hr p k o) (w * h)).1) (nI (w * h)) m' := by
        obtain ⟨b1, b2, b3⟩ := bst_lt (mnC w h law l th ti gr lick wk hr p k o) i
        have es : bstS (mnC w h law l th ti gr lick wk hr p k o) (i + 1) = (match bstS (mnC w h law l th ti gr lick wk hr p k o) i with | (none, _) => (some i, mnC w h law l th ti gr lick wk hr p k o i) | (some b, v) => if v < mnC w h law l th ti gr lick wk hr p k o i then (some i, mnC w h law l th ti gr lick wk hr p k o i) else (some b, v)) := rfl
        generalize hmn : mnC w h law l th ti gr lick wk hr p k o = f at *
        have M42 : ∀ v : Int32, M2 m1 (g_si m1 0 42 v) := fun v => ⟨fun j hj => by rw [si1, if_neg (fun z => hj z.2)], fun r h1 _ => sir h1⟩
        have put : ∀ e2 : bstS f (i + 1) = (some i, f i), ∃ m', M2 m0 m' ∧ (∀ b v, bstS f (w * h) = (some b, v) → m'.1 0 42 = nI v) ∧ f_X10_bestClover_13 (nI p) (nI k) (oI o) kk n (nI i) (nI i + 1) (g_si m1 0 42 (nI (f i))) = kk (oI (bstS f (w * h)).1) (nI (w * h)) m' := fun e2 => by
          have hx := ih (i + 1) (g_si m1 0 42 (nI (f i))) (by omega) (by omega) (S1.tr (M42 _)) (fun e => by omega) (fun b v q => by rw [e2] at q; cases q; rw [si1]; simp)
          rw [e2, ← nI_1] at hx
          exact hx
        rcases Nat.eq_zero_or_pos i with e0 | e0
        · have e3 := b3 e0
          rw [e3] at es ⊢
          have hneg : ¬ nI (f i) ≤ m1.1 0 42 := by
            rw [t3, h0 e0]
            exact neg_nle (by decide) (by omega)
          rw [if_neg hneg, if_neg hneg]
          exact put es
        · obtain ⟨b, v, hb⟩ := b2 e0
          obtain ⟨g1, j, g2, g3⟩ := b1 b v hb
          rw [hb] at es ⊢
          simp only at es
          have hvj : v ≤ 3960 := by rw [g3]; exact mb j (by omega)
          have e42 : m1.1 0 42 = nI v := by rw [t3]; exact hB b v hb
          rw [e42]
          by_cases hv : v < f i
          · rw [if_pos hv] at es
            rw [if_neg (by rw [nI_leI (by omega) (by omega)]; omega), if_neg (by rw [nI_leI (by omega) (by omega)]; omega)]
            exact put es
          · rw [if_neg hv] at es
            rw [if_pos ((nI_leI (by omega) (by omega)).mpr (by omega)), if_pos ((nI_leI (by omega) (by omega)).mpr (by omega))]
            have hx := ih (i + 1) (g_si m1 0 42 (nI v)) (by omega) (by omega) (S1.tr (M42 _)) (fun e => by omega) (fun b' v' q => by rw [es] at q; cases q; rw [si1]; simp)
            rw [es, ← nI_1] at hx
            exact hx
      cases ho2 : o with
      | none =>
        obtain ⟨mB, mC, u1, u2, u3⟩ := t4 ho2
        rw [ho2] at u2
        rw [if_pos (show oI none = -1 from rfl), u1, gb_v, u2, gb_i, u3, gb_v]
        simp only [g_let]
        rw [ho2] at tail
        exact tail
      | some q =>
        obtain ⟨mB0, mB, mC, u0, u1, u2, u3⟩ := t5 q ho2
        have hq := ho q ho2
        rw [ho2] at u2
        rw [if_neg (show ¬ oI (some q) = -1 from nI_m1 (by omega)), show oI (some q) = nI q from rfl, u0, gb_v, u1, gb_v, u2, gb_i, u3, gb_v]
        simp only [g_let]
        rw [ho2] at tail
        exact tail
theorem bc_m {m : gS} {p k : Nat} {o : Option Nat} (C : MX m w h hr law l th ti gr lick wk) (hF : FG m (w * h) fg) (hp : p < 2) (hk : k ≤ 9) (ho : ∀ q, o = some q → q < w * h) : ∃ m', M2 m m' ∧ (∀ b v, bstS (mnC w h law l th ti gr lick wk hr p k o) (w * h) = (some b, v) → m'.1 0 42 = nI v) ∧ f_X10_bestClover (nI p) (nI k) (oI o) m = some (some (.int (oI (bstS (mnC w h law l th ti gr lick wk hr p k o) (w * h)).1)), m') := by
  have hn := C.1.1.n
  unfold f_X10_bestClover
  simp only [g_let]
  have M42 : M2 m (g_si m 0 42 (-2000000000)) := ⟨fun j hj => by rw [si1, if_neg (fun z => hj z.2)], fun r h1 _ => sir h1⟩
  obtain ⟨m', a1, a2, a3⟩ := bc_13 (kk := fun v4_22 v5_23 s24 => (some (some (.int v4_22), s24))) (C.m2 M42) (by unfold FG; rw [M42.2 1 (by decide) (by decide)]; exact hF) hp hk ho g_N 0 (g_si m 0 42 (-2000000000)) (Nat.zero_le _) (by unfold g_N; omega) M2.rf (fun _ => by rw [si1]; simp) (fun b v q => by cases q)
  refine ⟨m', M42.tr a1, a2, ?_⟩
  rw [show bstS (mnC w h law l th ti gr lick wk hr p k o) 0 = (none, 0) from rfl, show oI (none, 0).1 = -1 from rfl, ← c32_0] at a3
  exact a3
end CLM
