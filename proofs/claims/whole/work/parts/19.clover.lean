/-! Clover -/
theorem mmin18 {g k : Nat} (hg : g < 2 ^ 30) (hk : k < 2 ^ 30) : g_mmin 18 (nI g + nI k) = nI (min 18 (g + k)) := by
  unfold g_mmin
  rw [nI_add, c32_18]
  by_cases q : g + k < 18
  · rw [if_pos ((nI_ltI (by omega) (by omega)).mpr q), Nat.min_eq_right (by omega)]
  · rw [if_neg (by rw [nI_ltI (by omega) (by omega)]; exact q), Nat.min_eq_left (by omega)]
theorem sown_c {g k : Nat} (hg : g < 2 ^ 30) (hk : k < 2 ^ 30) (s : gS) : f_X9_sown (nI g) (nI k) s = some (some (.int (nI (min 18 (g + k)))), s) := by
  unfold f_X9_sown
  rw [mmin18 hg hk]
def grO (gr : Nat → Nat) (k : Nat) (o : Option Nat) : Nat → Nat := fun q => if o = some q then min 18 (gr q + k) else gr q
def grC (gr : Nat → Nat) (k : Nat) (o : Option Nat) (c : Nat) : Nat → Nat := updN (grO gr k o) c (min 18 (grO gr k o c + k))
theorem grO_le {gr : Nat → Nat} {k q : Nat} {o : Option Nat} (h : gr q ≤ 18) : grO gr k o q ≤ 18 := by
  unfold grO; split
  · exact Nat.min_le_left _ _
  · exact h
def mnC (w h law : Nat) (l th ti gr : Nat → Nat) (lick wk : Option Nat) (hr p k : Nat) (o : Option Nat) (c : Nat) : Nat := mnF w h law ti (lkF l th (grC gr k o c) lick) wk hr p
def bstS (f : Nat → Nat) : Nat → Option Nat × Nat
  | 0 => (none, 0)
  | i + 1 => match bstS f i with
    | (none, _) => (some i, f i)
    | (some b, v) => if v < f i then (some i, f i) else (some b, v)
theorem bst_lt (f : Nat → Nat) : ∀ i, (∀ b v, bstS f i = (some b, v) → b < i ∧ ∃ j, j < i ∧ v = f j) ∧ (0 < i → ∃ b v, bstS f i = (some b, v)) ∧ (i = 0 → bstS f i = (none, 0))
  | 0 => ⟨(fun b v e => by cases e), (fun h => absurd h (by omega)), (fun _ => rfl)⟩
  | i + 1 => by
    obtain ⟨h1, h2, h3⟩ := bst_lt f i
    have e : bstS f (i + 1) = (match bstS f i with | (none, _) => (some i, f i) | (some b, v) => if v < f i then (some i, f i) else (some b, v)) := rfl
    rcases Nat.eq_zero_or_pos i with e0 | e0
    · subst e0
      refine ⟨fun b v q => ?_, fun _ => ⟨0, f 0, rfl⟩, fun q => absurd q (by omega)⟩
      have q' : ((some 0, f 0) : Option Nat × Nat) = (some b, v) := q
      cases q'; exact ⟨Nat.zero_lt_one, 0, Nat.zero_lt_one, rfl⟩
    · obtain ⟨b0, v0, hb⟩ := h2 e0
      rw [hb] at e
      obtain ⟨g1, j, g2, g3⟩ := h1 b0 v0 hb
      simp only at e
      by_cases hv : v0 < f i
      · rw [if_pos hv] at e
        exact ⟨fun b v q => by rw [e] at q; cases q; exact ⟨by omega, i, by omega, rfl⟩, fun _ => ⟨i, f i, e⟩, fun q => absurd q (by omega)⟩
      · rw [if_neg hv] at e
        exact ⟨fun b v q => by rw [e] at q; cases q; exact ⟨by omega, j, by omega, g3⟩, fun _ => ⟨b0, v0, e⟩, fun q => absurd q (by omega)⟩
section CLC
variable {w h hr law : Nat} {l th ti gr : Nat → Nat} {lick wk : Option Nat}
theorem lkF_upd {c g : Nat} {q : Nat} : lkF l th (updN gr c g) lick q = updN (lkF l th gr lick) c (lkN l g (th c) + (if lick = some c then 20 else 0)) q := by
  unfold updN lkF
  by_cases e : q = c
  · subst e; simp
  · simp [e]
theorem trial {s : gS} {p g0 g1 c : Nat} (C : CX s w h hr law l th ti gr lick wk) (hT : Tb s w h law ti (w * h)) {G : Nat → Nat} (hG : ∀ q, q < w * h → G q ≤ 18) (V : Vv s w h (lkF l th G lick)) (hc : c < w * h) (h0 : G c = g0) (h1 : g1 ≤ 18) (hp : p < 2) :
    ∃ s1 s2 s3, f_X1_tryGrass (nI c) (nI g1) s = some (none, s1) ∧ s1.1 14 4 = nI hr ∧ f_X1_run (nI hr) s1 = some (none, s2) ∧ f_X1_tryGrass (nI c) (nI g0) s2 = some (none, s3) ∧ f_X8_meanOf (nI p) s3 = some (some (.int (nI (mnF w h law ti (lkF l th (updN G c g1) lick) wk hr p))), s3) ∧ Sm [34, 35, 36, 37] s s3 ∧ Vv s3 w h (lkF l th G lick) := by
  have hn := C.1.1.n
  have hlk : ∀ q, lick = some q → q < 2 ^ 31 := fun q hq => by have := C.2.2.2.2.2.2.2.2.2.1 q hq; omega
  obtain ⟨s1, a1, a2, a3⟩ := tryG (g := g1) C.1 C.2.1 C.2.2.2.2.2.2.2.2.1 hlk hc h1 V
  have C1 := C.sm (a1.mono (fun k hk => by simp at hk ⊢; omega))
  have V1 : Vv s1 w h (lkF l th (updN G c g1) lick) := a2.congr C.1.1 (fun q _ => lkF_upd.symm)
  have hF1 : ∀ t, t < w * h → 1 ≤ lkF l th (updN G c g1) lick t ∧ lkF l th (updN G c g1) lick t ≤ 201 := fun t ht => lkF_le (fun j hj => (C.2.1.1 j hj).2) (by unfold updN; split; exact h1; exact hG t ht)
  obtain ⟨s2, b1, b2, b3⟩ := run_c (H := hr) (by have := C.2.2.2.2.2.1; omega) C1.1 V1 hF1 C1.2.2.2.2.2.2.2.2.2.2.1 C1.2.2.2.2.2.2.2.2.2.2.2
  have C2 := C1.sm (b1.sm.mono (fun k hk => by simp at hk ⊢; omega))
  have V2 := V1.s1 b1.1
  obtain ⟨s3, c1, c2, c3⟩ := tryG (g := g0) C2.1 C2.2.1 C2.2.2.2.2.2.2.2.2.1 hlk hc (by rw [← h0]; exact hG c hc) V2
  have S3 : Sm [34, 35, 36, 37] s s3 := (a1.mono (fun k hk => by simp at hk ⊢; omega)).tr ((b1.sm.mono (fun k hk => by simp at hk ⊢; omega)).tr (c1.mono (fun k hk => by simp at hk ⊢; omega)))
  have C3 := C.sm (S3.mono (fun k hk => by simp at hk ⊢; omega))
  have hT3 : Tb s3 w h law ti (w * h) := by unfold Tb; rw [(S3 39 (by simp)).1, (S3 40 (by simp)).1]; exact hT
  have hR3 : Rl s3 36 (odN w h (lkF l th (updN G c g1) lick) wk hr) := fun q hq => by rw [(c1 36 (by simp)).2]; exact b2 q hq
  refine ⟨s1, s2, s3, a3, C1.2.2.2.2.1, b3, c3, ?_, S3, c2.congr C.1.1 (fun q _ => ?_)⟩
  · rw [mean_c C3.1 (fun q hq => (C3.2.2.1 q hq).2) hT3 hR3 (od_tot C.1.1 hF1 C.2.2.2.2.2.2.2.2.2.2.2 hr).1 hp]
    rfl
  · have := lkF_upd (l := l) (th := th) (gr := updN G c g1) (lick := lick) (c := c) (g := g0) (q := q)
    rw [← this]
    have e : updN (updN G c g1) c g0 = G := by
      funext j
      unfold updN
      by_cases ej : j = c
      · subst ej; simp [h0]
      · simp [ej]
    rw [e]
theorem bc_52 {s0 : gS} {p k : Nat} {o : Option Nat} (C : CX s0 w h hr law l th ti gr lick wk) (hT : Tb s0 w h law ti (w * h)) (hp : p < 2) (hk : k ≤ 9) (ho : ∀ q, o = some q → q < w * h) {kk : Int32 → Int32 → gS → gR} : ∀ (n i : Nat) (s : gS), i ≤ w * h → w * h - i < n → Sm [34, 35, 36, 37, 38] s0 s → Vv s w h (lkF l th (grO gr k o) lick) → (∀ b v, bstS (mnC w h law l th ti gr lick wk hr p k o) i = (some b, v) → s.1 38 5 = nI v) → (∀ j, j ≠ 5 → s.1 38 j = s0.1 38 j) →
    ∃ s', Sm [34, 35, 36, 37, 38] s0 s' ∧ (∀ b v, bstS (mnC w h law l th ti gr lick wk hr p k o) (w * h) = (some b, v) → s'.1 38 5 = nI v) ∧ (∀ j, j ≠ 5 → s'.1 38 j = s0.1 38 j) ∧ f_X8_bestClover_52 (nI p) (nI k) (oI o) kk n (oI (bstS (mnC w h law l th ti gr lick wk hr p k o) i).1) (nI i) s = kk (oI (bstS (mnC w h law l th ti gr lick wk hr p k o) (w * h)).1) (nI (w * h)) s' := by
  intro n
  induction n with
  | zero => intro i s _ h2; omega
  | succ n ih =>
    intro i s h1 h2 hS hV hB h38
    have hn := C.1.1.n
    have C' := C.sm (hS.mono (fun k hk => by simp at hk ⊢; omega))
    have hT' : Tb s w h law ti (w * h) := by unfold Tb; rw [(hS 39 (by simp)).1, (hS 40 (by simp)).1]; exact hT
    rw [f_X8_bestClover_52.eq_2, C'.1.2.2.2.1]
    by_cases hi : w * h ≤ i
    · have e : i = w * h := by omega
      subst e
      rw [if_pos ((nI_leI (by omega) (by omega)).mpr (Nat.le_refl _))]
      exact ⟨s, hS, hB, h38, rfl⟩
    · have hi2 : i < w * h := by omega
      have hg := C'.2.2.2.1 i hi2
      have hGle : ∀ q, q < w * h → grO gr k o q ≤ 18 := fun q hq => grO_le (C'.2.2.2.1 q hq).2
      obtain ⟨s1, s2, s3, t1, t2, t3, t4, t5, t6, t7⟩ := trial (g0 := grO gr k o i) (g1 := min 18 (grO gr k o i + k)) C' hT' hGle hV hi2 rfl (Nat.min_le_left _ _) hp
      have hval : mnF w h law ti (lkF l th (updN (grO gr k o) i (min 18 (grO gr k o i + k))) lick) wk hr p = mnC w h law l th ti gr lick wk hr p k o i := rfl
      rw [hval] at t5
      have S3 : Sm [34, 35, 36, 37, 38] s0 s3 := hS.tr (t6.mono (fun k hk => by simp at hk ⊢; omega))
      have h38' : ∀ j, s3.1 38 j = s.1 38 j := fun j => by rw [(t6 38 (by simp)).1]
      have hgi := hGle i hi2
      have hF1 : ∀ t, t < w * h → 1 ≤ lkF l th (grC gr k o i) lick t ∧ lkF l th (grC gr k o i) lick t ≤ 201 := fun t ht => lkF_le (fun j hj => (C.2.1.1 j hj).2) (by unfold grC updN; split; exact Nat.min_le_left _ _; exact hGle t ht)
      have hvb : mnC w h law l th ti gr lick wk hr p k o i ≤ 3960 := mnF_le C.1.1 (fun q hq => (C.2.2.1 q hq).2) hF1 C.2.2.2.2.2.2.2.2.2.2.2
      -- what follows the trial, the same on both roads
      have tail : ∃ s', Sm [34, 35, 36, 37, 38] s0 s' ∧ (∀ b v, bstS (mnC w h law l th ti gr lick wk hr p k o) (w * h) = (some b, v) → s'.1 38 5 = nI v) ∧ (∀ j, j ≠ 5 → s'.1 38 j = s0.1 38 j) ∧ (if oI (bstS (mnC w h law l th ti gr lick wk hr p k o) i).1 = -1 then f_X8_bestClover_52 (nI p) (nI k) (oI o) kk n (nI i) (nI i + 1) (g_si s3 38 5 (nI (mnC w h law l th ti gr lick wk hr p k o i))) else if s3.1 38 5 < nI (mnC w h law l th ti gr lick wk hr p k o i) then f_X8_bestClover_52 (nI p) (nI k) (oI o) kk n (nI i) (nI i + 1) (g_si s3 38 5 (nI (mnC w h law l th ti gr lick wk hr p k o i))) else f_X8_bestClover_52 (nI p) (nI k) (oI o) kk n (oI (bstS (mnC w h law l th ti gr lick wk hr p k o) i).1) (nI i + 1) s3) = kk (oI (bstS (mnC w h law l th ti gr lick wk hr p k o) (w * h)).1) (nI (w * h)) s' := by
        obtain ⟨b1, b2, b3⟩ := bst_lt (mnC w h law l th ti gr lick wk hr p k o) i
        have es : bstS (mnC w h law l th ti gr lick wk hr p k o) (i + 1) = (match bstS (mnC w h law l th ti gr lick wk hr p k o) i with | (none, _) => (some i, mnC w h law l th ti gr lick wk hr p k o i) | (some b, v) => if v < mnC w h law l th ti gr lick wk hr p k o i then (some i, mnC w h law l th ti gr lick wk hr p k o i) else (some b, v)) := rfl
        generalize hmn : mnC w h law l th ti gr lick wk hr p k o = f at *
        have put : ∀ e2 : bstS f (i + 1) = (some i, f i), ∃ s', Sm [34, 35, 36, 37, 38] s0 s' ∧ (∀ b v, bstS f (w * h) = (some b, v) → s'.1 38 5 = nI v) ∧ (∀ j, j ≠ 5 → s'.1 38 j = s0.1 38 j) ∧ f_X8_bestClover_52 (nI p) (nI k) (oI o) kk n (nI i) (nI i + 1) (g_si s3 38 5 (nI (f i))) = kk (oI (bstS f (w * h)).1) (nI (w * h)) s' := fun e2 => by
          have hx := ih (i + 1) (g_si s3 38 5 (nI (f i))) (by omega) (by omega) (S3.tr (Sm.si (by simp))) (t7.sm (sir (by decide)) (sir (by decide))) (fun b v q => by rw [e2] at q; cases q; rw [si1]; simp) (fun j hj => by rw [si1, if_neg (fun z => hj z.2), h38' j]; exact h38 j hj)
          rw [e2, ← nI_1] at hx
          exact hx
        rcases Nat.eq_zero_or_pos i with e0 | e0
        · have e3 := b3 e0
          rw [e3] at es ⊢
          rw [if_pos (show oI none = -1 from rfl)]
          exact put es
        · obtain ⟨b, v, hb⟩ := b2 e0
          obtain ⟨g1, j, g2, g3⟩ := b1 b v hb
          rw [hb] at es ⊢
          simp only at es
          rw [if_neg (show ¬ oI (some b) = -1 from nI_m1 (by omega)), h38' 5, hB b v hb]
          have hvj : v ≤ 3960 := by
            rw [g3, ← hmn]
            exact mnF_le C.1.1 (fun q hq => (C.2.2.1 q hq).2) (fun t ht => lkF_le (fun j hj => (C.2.1.1 j hj).2) (by unfold grC updN; split; exact Nat.min_le_left _ _; exact hGle t ht)) C.2.2.2.2.2.2.2.2.2.2.2
          by_cases hv : v < f i
          · rw [if_pos hv] at es
            rw [if_pos ((nI_ltI (by omega) (by omega)).mpr hv)]
            exact put es
          · rw [if_neg hv] at es
            rw [if_neg (by rw [nI_ltI (by omega) (by omega)]; exact hv)]
            have hx := ih (i + 1) s3 (by omega) (by omega) S3 t7 (fun b' v' q => by rw [es] at q; cases q; rw [h38' 5]; exact hB b v hb) (fun j hj => by rw [h38' j]; exact h38 j hj)
            rw [es, ← nI_1] at hx
            exact hx
      have hcase : (nI i = oI o) = (o = some i) := by
        rw [← oI_eq (o := o) (q := i) (by omega) (fun q hq => by have := ho q hq; omega)]
        exact propext ⟨fun e => e.symm, fun e => e.symm⟩
      rw [if_neg (by rw [nI_leI (by omega) (by omega)]; omega)]
      simp only [hcase]
      by_cases hoi : o = some i
      · have eO : grO gr k o i = min 18 (gr i + k) := if_pos hoi
        rw [eO] at t1 t4 hgi
        rw [if_pos hoi, g_ixn (by omega) (by omega), nI_clamp (by omega), hg.1, sown_c (by omega) (by omega), gb_i, sown_c (by omega) (by omega), gb_i, t1, gb_v, t2, t3, gb_v, t4, gb_v, t5, gb_i]
        simp only [g_let]
        exact tail
      · have eO : grO gr k o i = gr i := if_neg hoi
        rw [eO] at t1 t4
        rw [if_neg hoi, g_ixn (by omega) (by omega), nI_clamp (by omega), hg.1]
        simp only [g_leti]
        rw [sown_c (by omega) (by omega), gb_i, t1, gb_v, t2, t3, gb_v, t4, gb_v, t5, gb_i]
        simp only [g_let]
        exact tail
theorem bc_c {s : gS} {p k : Nat} {o : Option Nat} (C : CX s w h hr law l th ti gr lick wk) (hT : Tb s w h law ti (w * h)) (hp : p < 2) (hk : k ≤ 9) (ho : ∀ q, o = some q → q < w * h) : ∃ s', Sm [34, 35, 36, 37, 38] s s' ∧ (∀ b v, bstS (mnC w h law l th ti gr lick wk hr p k o) (w * h) = (some b, v) → s'.1 38 5 = nI v) ∧ (∀ j, j ≠ 5 → s'.1 38 j = s.1 38 j) ∧ f_X8_bestClover (nI p) (nI k) (oI o) s = some (some (.int (oI (bstS (mnC w h law l th ti gr lick wk hr p k o) (w * h)).1)), s') := by
  have hn := C.1.1.n
  have hlk : ∀ q, lick = some q → q < 2 ^ 31 := fun q hq => by have := C.2.2.2.2.2.2.2.2.2.1 q hq; omega
  obtain ⟨s1, a1, a2, a3⟩ := look (lick := lick) C.1 C.2.1 C.2.2.2.1 hlk
  have C1 := C.sm (a1.mono (fun k hk => by simp at hk ⊢; omega))
  have hT1 : Tb s1 w h law ti (w * h) := by unfold Tb; rw [(a1 39 (by simp)).1, (a1 40 (by simp)).1]; exact hT
  have e38 : s1.1 38 = s.1 38 := (a1 38 (by simp)).1
  unfold f_X8_bestClover
  rw [C.2.2.2.2.2.2.2.2.1, a3, gb_v]
  have b0 : bstS (mnC w h law l th ti gr lick wk hr p k o) 0 = (none, 0) := rfl
  cases ho2 : o with
  | none =>
    subst ho2
    rw [show oI none = -1 from rfl, has_no, gb_i, if_pos rfl]
    have e : grO gr k none = gr := by funext q; simp [grO]
    obtain ⟨s', c1, c2, c3, c4⟩ := bc_52 (kk := fun v4_25 v5_26 s27 => (some (some (.int v4_25), s27))) (o := none) C1 hT1 hp hk ho g_N 0 s1 (Nat.zero_le _) (by unfold g_N; omega) Sm.rf (by rw [e]; exact a2) (fun b v q => by cases q) (fun j hj => rfl)
    refine ⟨s', (a1.mono (fun k hk => by simp at hk ⊢; omega)).tr c1, c2, fun j hj => by rw [c3 j hj, e38], ?_⟩
    rw [b0, show oI (none, 0).1 = -1 from rfl, ← c32_0] at c4
    exact c4
  | some q =>
    subst ho2
    have hq := ho q rfl
    have hg := C1.2.2.2.1 q hq
    rw [show oI (some q) = nI q from rfl, has_in C1.1 hq, gb_i, if_neg (by decide), g_ixn (by omega) (by omega), nI_clamp (by omega), hg.1, sown_c (by omega) (by omega), gb_i]
    obtain ⟨s2, d1, d2, d3⟩ := tryG (g := min 18 (gr q + k)) C1.1 C1.2.1 C1.2.2.2.2.2.2.2.2.1 hlk hq (Nat.min_le_left _ _) a2
    have C2 := C1.sm (d1.mono (fun k hk => by simp at hk ⊢; omega))
    have hT2 : Tb s2 w h law ti (w * h) := by unfold Tb; rw [(d1 39 (by simp)).1, (d1 40 (by simp)).1]; exact hT1
    have V2 : Vv s2 w h (lkF l th (grO gr k (some q)) lick) := d2.congr C.1.1 (fun j hj => by
      rw [← lkF_upd]
      have e : updN gr q (min 18 (gr q + k)) = grO gr k (some q) := by
        funext j
        unfold updN grO
        by_cases ej : j = q
        · subst ej; simp
        · rw [if_neg ej, if_neg (fun z => ej (Option.some.inj z).symm)]
      rw [e])
    rw [d3, gb_v]
    obtain ⟨s', c1, c2, c3, c4⟩ := bc_52 (kk := fun v4_25 v5_26 s27 => (some (some (.int v4_25), s27))) (o := some q) C2 hT2 hp hk ho g_N 0 s2 (Nat.zero_le _) (by unfold g_N; omega) Sm.rf V2 (fun b v q => by cases q) (fun j hj => rfl)
    refine ⟨s', (a1.mono (fun k hk => by simp at hk ⊢; omega)).tr ((d1.mono (fun k hk => by simp at hk ⊢; omega)).tr c1), c2, fun j hj => by rw [c3 j hj, (d1 38 (by simp)).1, e38], ?_⟩
    rw [b0, show oI (none, 0).1 = -1 from rfl, show oI (some q) = nI q from rfl, ← c32_0] at c4
    exact c4
end CLC
