/-! Where she can have lain: the reference, and the call -/
def lnS (w h ns : Nat) (X Y : Nat → Int32) (wk : Option Nat) : Nat → Nat → Prop
  | 0 => kp X Y (nI 0) ns (fun q => wk = some q)
  | t + 1 => kp X Y (nI (t + 1)) ns (sp w h (lnS w h ns X Y wk t))
section LAYF
variable {w h ns hr : Nat} {X Y : Nat → Int32} {v : Int32} {wk : Option Nat}
theorem fn_2 {c0 : gS} {k : Int32 → gS → gR} : ∀ (n i : Nat) (c : gS), i ≤ 40 → 40 - i < n → Sm [44] c0 c → (∀ q, q < i → c.1 44 q = 0) → ∃ c', Sm [44] c0 c' ∧ (∀ q, q < 40 → c'.1 44 q = 0) ∧ f_X6_followToNoon_2 k n (nI i) c = k (nI 40) c' := by
  intro n
  induction n with
  | zero => intro i c _ h2; omega
  | succ n ih =>
    intro i c h1 h2 hS hA
    rw [f_X6_followToNoon_2.eq_2, c32_40]
    by_cases hi : 40 ≤ i
    · have e : i = 40 := by omega
      subst e
      rw [if_pos ((nI_leI (by omega) (by omega)).mpr (Nat.le_refl _))]
      exact ⟨c, hS, hA, rfl⟩
    · rw [if_neg (by rw [nI_leI (by omega) (by omega)]; omega), g_ixn (by omega) (by omega), nI_clamp (by omega), nb0, gl_s, nI_1]
      refine ih (i + 1) _ (by omega) (by omega) (hS.tr (Sm.si (by simp))) (fun q hq => ?_)
      by_cases eq : q = i
      · subst eq; rw [si_eq]
      · rw [si_nj eq]; exact hA q (by omega)
theorem fn_58 {c0 : gS} (L : Ld c0 14 w h) (hh : c0.1 14 4 = nI hr) (hr8 : hr ≤ 8) (hns : ns ≤ 10) (h4 : c0.1 41 4 = nI ns) (hX : ∀ k, k < ns → c0.1 42 k = X k ∧ c0.1 43 k = Y k) {k : Int32 → gS → gR} : ∀ (n t : Nat) (c : gS), t ≤ hr → hr - t < n → Sm [44, 45] c0 c → (∀ q, q < 40 → Bq (c.1 44 q) (lnS w h ns X Y wk t q)) →
    ∃ c', Sm [44, 45] c0 c' ∧ (∀ q, q < 40 → Bq (c'.1 44 q) (lnS w h ns X Y wk hr q)) ∧ f_X6_followToNoon_58 k n (nI (t + 1)) c = k (nI (hr + 1)) c' := by
  intro n
  induction n with
  | zero => intro t c _ h2; omega
  | succ n ih =>
    intro t c h1 h2 hS hA
    have Lc : Ld c 14 w h := L.congr (fun k a b => (hS k (by simp; omega)).1)
    rw [f_X6_followToNoon_58.eq_2, (hS 14 (by simp)).1, hh]
    by_cases hi : hr ≤ t
    · have e : t = hr := by omega
      subst e
      rw [if_pos ((nI_ltI (by omega) (by omega)).mpr (by omega))]
      exact ⟨c, hS, hA, rfl⟩
    · rw [if_neg (by rw [nI_ltI (by omega) (by omega)]; omega)]
      obtain ⟨c1, a1, a2, a3⟩ := sp_c Lc hA
      have S1 := hS.tr a1
      obtain ⟨c2, b1, b2, b3⟩ := ks_c (c := c1) (v := nI (t + 1)) (X := X) (Y := Y) hns (by rw [(S1 41 (by simp)).1]; exact h4) (fun k hk => by rw [(S1 42 (by simp)).1, (S1 43 (by simp)).1]; exact hX k hk) a2
      rw [a3, gb_v, b3, gb_v, nI_1]
      exact ih (t + 1) c2 (by omega) (by omega) (S1.tr (b1.mono (fun k hk => by simp at hk ⊢; omega))) b2
theorem fn_c {c : gS} (L : Ld c 14 w h) (hh : c.1 14 4 = nI hr) (hr8 : hr ≤ 8) (hns : ns ≤ 10) (h4 : c.1 41 4 = nI ns) (hX : ∀ k, k < ns → c.1 42 k = X k ∧ c.1 43 k = Y k) (hwk : c.1 22 3 = oI wk) (hwn : ∀ q, wk = some q → q < w * h) : ∃ c', Sm [44, 45] c c' ∧ (∀ q, q < 40 → Bq (c'.1 44 q) (lnS w h ns X Y wk hr q)) ∧ f_X6_followToNoon c = some (none, c') := by
  have hn := L.1.n
  unfold f_X6_followToNoon
  obtain ⟨c1, a1, a2, a3⟩ := fn_2 (c0 := c) (k := fun v1_2 s3 => (g_bind (f_X3_has 14 (s3.1 22 3) s3) (g_ki (fun r5 s4 => (if r5 = 0 then (g_bind (f_X6_keepSeen (0 : Int32) s4) (g_kv (fun s6 => (f_X6_followToNoon_58  (fun v1_9 s10 => (some (none, s10))) g_N (1 : Int32) s6)))) else (g_ix (s4.1 22 3) 40 (g_let (g_si s4 44 (s4.1 22 3).toNatClampNeg (vp_nar .boolean (1 : Int32))) (fun s11 => (g_bind (f_X6_keepSeen (0 : Int32) s11) (g_kv (fun s12 => (f_X6_followToNoon_58  (fun v1_13 s14 => (some (none, s14))) g_N (1 : Int32) s12)))))))))))) g_N 0 c (by omega) (by unfold g_N; omega) Sm.rf (fun q hq => absurd hq (by omega))
  rw [← c32_0] at a3
  rw [a3]
  have L1 : Ld c1 14 w h := L.congr (fun k a b => (a1 k (by simp; omega)).1)
  have tl : ∀ cA : gS, Sm [44, 45] c cA → (∀ q, q < 40 → Bq (cA.1 44 q) (wk = some q)) → ∃ c', Sm [44, 45] c c' ∧ (∀ q, q < 40 → Bq (c'.1 44 q) (lnS w h ns X Y wk hr q)) ∧ g_bind (f_X6_keepSeen (0 : Int32) cA) (g_kv (fun s6 => (f_X6_followToNoon_58  (fun v1_9 s10 => (some (none, s10))) g_N (1 : Int32) s6))) = some (none, c') := by
    intro cA S hA
    obtain ⟨c2, b1, b2, b3⟩ := ks_c (c := cA) (v := nI 0) (X := X) (Y := Y) hns (by rw [(S 41 (by simp)).1]; exact h4) (fun k hk => by rw [(S 42 (by simp)).1, (S 43 (by simp)).1]; exact hX k hk) hA
    have S2' := S.tr (b1.mono (fun k hk => by simp at hk ⊢; omega))
    have L2 : Ld c2 14 w h := L.congr (fun k a b => (S2' k (by simp; omega)).1)
    obtain ⟨c3, d1, d2, d3⟩ := fn_58 (wk := wk) (hr := hr) (k := fun v1_9 s10 => (some (none, s10))) L2 (by rw [(S2' 14 (by simp)).1]; exact hh) hr8 hns (by rw [(S2' 41 (by simp)).1]; exact h4) (fun k hk => by rw [(S2' 42 (by simp)).1, (S2' 43 (by simp)).1]; exact hX k hk) g_N 0 c2 (by omega) (by unfold g_N; omega) Sm.rf b2
    rw [c32_0, b3, gb_v, c32_1]
    exact ⟨c3, S2'.tr d1, d2, d3⟩
  rw [(a1 22 (by simp)).1, hwk]
  cases wk with
  | none =>
    rw [show oI none = -1 from rfl, has_no, gb_i, i00]
    exact tl c1 (a1.mono (fun k hk => by simp at hk ⊢; omega)) (fun q hq => by rw [a2 q hq]; exact Bq.f (fun z => by cases z))
  | some p =>
    have hp := hwn p rfl
    rw [show oI (some p) = nI p from rfl, has_in L1 hp, gb_i, i10, (a1 22 (by simp)).1, hwk, show oI (some p) = nI p from rfl, g_ixn (by omega) (by omega), nI_clamp (by omega), nb1, gl_s]
    refine tl _ ((a1.mono (fun k hk => by simp at hk ⊢; omega)).tr (Sm.si (by simp))) (fun q hq => ?_)
    by_cases eq : q = p
    · subst eq; rw [si_eq]; exact Bq.t rfl
    · rw [si_nj eq, a2 q hq]; exact Bq.f (fun z => eq (by cases z; rfl))
/-! the reference -/
def R2 (m m' : gS) : Prop := ∀ r, r ≠ 21 → r ≠ 22 → m'.1 r = m.1 r
theorem R2.rf {m : gS} : R2 m m := fun _ _ _ => rfl
theorem R2.tr {m m' m'' : gS} (a : R2 m m') (b : R2 m' m'') : R2 m m'' := fun r x y => (b r x y).trans (a r x y)
theorem R2.si {m : gS} {k j : Nat} {x : Int32} (h : k = 21 ∨ k = 22) : R2 m (g_si m k j x) := fun r a b => sir (by omega)
theorem ft_12 {m0 : gS} {j : Nat} {A : Nat → Prop} {x : Int32} (hj : j < 10) (hX : m0.1 7 j = x) (hY : m0.1 8 j = v) {k : Int32 → gS → gR} : ∀ (n i : Nat) (m : gS), i ≤ 40 → 40 - i < n → R2 m0 m → (∀ q, q < 40 → Bq (m.1 21 q) (A q ∧ (q < i → nI q = x))) →
    ∃ m', R2 m0 m' ∧ (∀ q, q < 40 → Bq (m'.1 21 q) (A q ∧ nI q = x)) ∧ f_X10_fit_12 v (nI j) k n (nI i) m = k (nI 40) m' := by
  intro n
  induction n with
  | zero => intro i m _ h2; omega
  | succ n ih =>
    intro i m h1 h2 hS hA
    rw [f_X10_fit_12.eq_2, c32_40]
    by_cases hi : 40 ≤ i
    · have e : i = 40 := by omega
      subst e
      rw [if_pos ((nI_leI (by omega) (by omega)).mpr (Nat.le_refl _))]
      exact ⟨m, hS, fun q hq => (hA q hq).cg ⟨fun z => ⟨z.1, z.2 hq⟩, fun z => ⟨z.1, fun _ => z.2⟩⟩, rfl⟩
    · have oth : ∀ (y : Int32) q, q < 40 → q ≠ i → Bq ((g_si m 21 i y).1 21 q) (A q ∧ (q < i + 1 → nI q = x)) := fun y q hq eq => by
        rw [si_nj eq]
        exact (hA q hq).cg ⟨fun z => ⟨z.1, fun a => z.2 (by omega)⟩, fun z => ⟨z.1, fun a => z.2 (by omega)⟩⟩
      rw [if_neg (by rw [nI_leI (by omega) (by omega)]; omega), g_ixn (by omega) (by omega), nI_clamp (n := j) (by omega), hS 8 (by decide) (by decide), hY, if_pos rfl, g_ixn (by omega) (by omega), nI_clamp (by omega), nI_1]
      rcases hA i (by omega) with ⟨e1, e2⟩ | ⟨e1, e2⟩
      · rw [e1, i10, g_ixn (by omega) (by omega), hS 7 (by decide) (by decide), hX]
        by_cases e : nI i = x
        · rw [if_pos e, g_ixn (by omega) (by omega), nb1, gl_s]
          refine ih (i + 1) _ (by omega) (by omega) (hS.tr (R2.si (Or.inl rfl))) (fun q hq => ?_)
          by_cases eq : q = i
          · subst eq; rw [si_eq]; exact Bq.t ⟨e2.1, fun _ => e⟩
          · exact oth _ q hq eq
        · rw [if_neg e, g_ixn (by omega) (by omega), nb0, gl_s]
          refine ih (i + 1) _ (by omega) (by omega) (hS.tr (R2.si (Or.inl rfl))) (fun q hq => ?_)
          by_cases eq : q = i
          · subst eq; rw [si_eq]; exact Bq.f (fun z => e (z.2 (by omega)))
          · exact oth _ q hq eq
      · rw [e1, i00, g_ixn (by omega) (by omega), nb0, gl_s]
        refine ih (i + 1) _ (by omega) (by omega) (hS.tr (R2.si (Or.inl rfl))) (fun q hq => ?_)
        by_cases eq : q = i
        · subst eq; rw [si_eq]; exact Bq.f (fun z => e2 ⟨z.1, fun a => absurd a (by omega)⟩)
        · exact oth _ q hq eq
theorem ft_12n {m : gS} {j : Nat} (hj : j < 10) (hY : m.1 8 j ≠ v) {k : Int32 → gS → gR} {n : Nat} : f_X10_fit_12 v (nI j) k (n + 1) (nI 0) m = k (nI 0) m := by
  rw [f_X10_fit_12.eq_2, c32_40, if_neg (by rw [nI_leI (by omega) (by omega)]; omega), g_ixn (by omega) (by omega), nI_clamp (n := j) (by omega), if_neg hY]
theorem ft_2 {m0 : gS} {A : Nat → Prop} (hns : ns ≤ 10) (h4 : m0.1 0 11 = nI ns) (hX : ∀ k, k < ns → m0.1 7 k = X k ∧ m0.1 8 k = Y k) {k : Int32 → gS → gR} : ∀ (n j : Nat) (m : gS), j ≤ ns → ns - j < n → R2 m0 m → (∀ q, q < 40 → Bq (m.1 21 q) (kp X Y v j A q)) →
    ∃ m', R2 m0 m' ∧ (∀ q, q < 40 → Bq (m'.1 21 q) (kp X Y v ns A q)) ∧ f_X10_fit_2 v k n (nI j) m = k (nI ns) m' := by
  intro n
  induction n with
  | zero => intro j m _ h2; omega
  | succ n ih =>
    intro j m h1 h2 hS hA
    rw [f_X10_fit_2.eq_2, hS 0 (by decide) (by decide), h4]
    by_cases hi : ns ≤ j
    · have e : j = ns := by omega
      subst e
      rw [if_pos ((nI_leI (by omega) (by omega)).mpr (Nat.le_refl _))]
      exact ⟨m, hS, hA, rfl⟩
    · rw [if_neg (by rw [nI_leI (by omega) (by omega)]; omega)]
      have x1 : m.1 7 j = X j := by rw [hS 7 (by decide) (by decide)]; exact (hX j (by omega)).1
      have x2 : m.1 8 j = Y j := by rw [hS 8 (by decide) (by decide)]; exact (hX j (by omega)).2
      by_cases e : Y j = v
      · obtain ⟨m1, a1, a2, a3⟩ := ft_12 (m0 := m) (j := j) (A := kp X Y v j A) (v := v) (x := X j) (by omega) x1 (x2.trans e) (k := fun v3_2 s3 => f_X10_fit_2 v k n (nI j + 1) s3) g_N 0 m (by omega) (by unfold g_N; omega) R2.rf (fun q hq => (hA q hq).cg ⟨fun z => ⟨z, fun a => absurd a (by omega)⟩, fun z => z.1⟩)
        rw [c32_0, a3, nI_1]
        refine ih (j + 1) m1 (by omega) (by omega) (hS.tr a1) (fun q hq => (a2 q hq).cg ⟨fun z => ⟨z.1.1, fun k hk hy => ?_⟩, fun z => ⟨⟨z.1, fun k hk hy => z.2 k (by omega) hy⟩, z.2 j (by omega) e⟩⟩)
        by_cases ek : k = j
        · rw [ek]; exact z.2
        · exact z.1.2 k (by omega) hy
      · have gN : g_N = (g_N - 1) + 1 := by unfold g_N; omega
        rw [gN, c32_0, ft_12n (by omega) (by rw [x2]; exact e), nI_1]
        refine ih (j + 1) m (by omega) (by omega) hS (fun q hq => (hA q hq).cg ⟨fun z => ⟨z.1, fun k hk hy => ?_⟩, fun z => ⟨z.1, fun k hk hy => z.2 k (by omega) hy⟩⟩)
        by_cases ek : k = j
        · rw [ek] at hy; exact absurd hy e
        · exact z.2 k (by omega) hy
theorem ft_m {m : gS} {A : Nat → Prop} (hns : ns ≤ 10) (h4 : m.1 0 11 = nI ns) (hX : ∀ k, k < ns → m.1 7 k = X k ∧ m.1 8 k = Y k) (hA : ∀ q, q < 40 → Bq (m.1 21 q) (A q)) : ∃ m', R2 m m' ∧ (∀ q, q < 40 → Bq (m'.1 21 q) (kp X Y v ns A q)) ∧ f_X10_fit v m = some (none, m') := by
  unfold f_X10_fit
  rw [c32_0]
  exact ft_2 (k := fun v2_6 s7 => some (none, s7)) hns h4 hX g_N 0 m (by omega) (by unfold g_N; omega) R2.rf (fun q hq => (hA q hq).cg ⟨fun z => ⟨z, fun k hk => absurd hk (by omega)⟩, fun z => z.1⟩)
theorem fc_2 {m0 : gS} (hwk : m0.1 1 80 = oI wk) (hwn : ∀ q, wk = some q → q < 2 ^ 31) {k : Int32 → gS → gR} : ∀ (n i : Nat) (m : gS), i ≤ 40 → 40 - i < n → R2 m0 m → (∀ q, q < i → Bq (m.1 21 q) (wk = some q)) → ∃ m', R2 m0 m' ∧ (∀ q, q < 40 → Bq (m'.1 21 q) (wk = some q)) ∧ f_X10_findCan_2 k n (nI i) m = k (nI 40) m' := by
  intro n
  induction n with
  | zero => intro i m _ h2; omega
  | succ n ih =>
    intro i m h1 h2 hS hA
    rw [f_X10_findCan_2.eq_2, c32_40]
    by_cases hi : 40 ≤ i
    · have e : i = 40 := by omega
      subst e
      rw [if_pos ((nI_leI (by omega) (by omega)).mpr (Nat.le_refl _))]
      exact ⟨m, hS, hA, rfl⟩
    · have hk : (oI wk = nI i) = (wk = some i) := oI_eq (by omega) hwn
      rw [if_neg (by rw [nI_leI (by omega) (by omega)]; omega), show (80 : Int32) = nI 80 from rfl, m82 (by omega), m82c (by omega), hS 1 (by decide) (by decide), hwk, nI_1]
      by_cases e : wk = some i
      · rw [if_pos (hk.mpr e).symm, g_ixn (by omega) (by omega), nI_clamp (by omega), nb1, gl_s]
        refine ih (i + 1) _ (by omega) (by omega) (hS.tr (R2.si (Or.inl rfl))) (fun q hq => ?_)
        by_cases eq : q = i
        · subst eq; rw [si_eq]; exact Bq.t e
        · rw [si_nj eq]; exact hA q (by omega)
      · rw [if_neg (fun z => e (hk.mp z.symm)), g_ixn (by omega) (by omega), nI_clamp (by omega), nb0, gl_s]
        refine ih (i + 1) _ (by omega) (by omega) (hS.tr (R2.si (Or.inl rfl))) (fun q hq => ?_)
        by_cases eq : q = i
        · subst eq; rw [si_eq]; exact Bq.f e
        · rw [si_nj eq]; exact hA q (by omega)
theorem fc_53 {m0 : gS} {k : Int32 → gS → gR} : ∀ (n i : Nat) (m : gS), i ≤ 40 → 40 - i < n → (∀ r, r ≠ 22 → m.1 r = m0.1 r) → (∀ q, q < i → m.1 22 q = 0) → ∃ m', (∀ r, r ≠ 22 → m'.1 r = m0.1 r) ∧ (∀ q, q < 40 → m'.1 22 q = 0) ∧ f_X10_findCan_53 v k n (nI i) m = k (nI 40) m' := by
  intro n
  induction n with
  | zero => intro i m _ h2; omega
  | succ n ih =>
    intro i m h1 h2 hS hA
    rw [f_X10_findCan_53.eq_2, c32_40]
    by_cases hi : 40 ≤ i
    · have e : i = 40 := by omega
      subst e
      rw [if_pos ((nI_leI (by omega) (by omega)).mpr (Nat.le_refl _))]
      exact ⟨m, hS, hA, rfl⟩
    · rw [if_neg (by rw [nI_leI (by omega) (by omega)]; omega), g_ixn (by omega) (by omega), nI_clamp (by omega), nb0, gl_s, nI_1]
      refine ih (i + 1) _ (by omega) (by omega) (fun r z => (sir z).trans (hS r z)) (fun q hq => ?_)
      by_cases eq : q = i
      · subst eq; rw [si_eq]
      · rw [si_nj eq]; exact hA q (by omega)
theorem wl_mem {f q : Nat} : q ∈ wayL w h f ↔ ∃ s, s < 5 ∧ wayS w h f s = some q := by
  unfold wayL
  rw [List.mem_filterMap]
  constructor
  · rintro ⟨s, hs, e⟩
    exact ⟨s, by simp at hs; omega, e⟩
  · rintro ⟨s, hs, e⟩
    exact ⟨s, by simp; omega, e⟩
theorem fc_74 {m0 : gS} {A : Nat → Prop} (M : Md m0 w h) (hA0 : ∀ q, q < 40 → Bq (m0.1 21 q) (A q)) {k : Int32 → gS → gR} : ∀ (n i : Nat) (m : gS), i ≤ 5 * (w * h) → 5 * (w * h) - i < n → (∀ r, r ≠ 22 → m.1 r = m0.1 r) → (∀ q, q < 40 → Bq (m.1 22 q) (∃ f s, s < 5 ∧ 5 * f + s < i ∧ A f ∧ wayS w h f s = some q)) →
    ∃ m', (∀ r, r ≠ 22 → m'.1 r = m0.1 r) ∧ (∀ q, q < 40 → Bq (m'.1 22 q) (sp w h A q)) ∧ f_X10_findCan_74 v k n (nI i) m = k (nI (5 * (w * h))) m' := by
  have hn := M.1.n
  intro n
  induction n with
  | zero => intro i m _ h2; omega
  | succ n ih =>
    intro i m h1 h2 hS hA
    have M' : Md m w h := by unfold Md at *; rw [hS 0 (by decide)]; exact M
    rw [f_X10_findCan_74.eq_2, cells_m M', gb_i, c32_5, pk_mul]
    by_cases hi : 5 * (w * h) ≤ i
    · have e : i = 5 * (w * h) := by omega
      subst e
      rw [if_pos ((nI_leI (by omega) (by omega)).mpr (Nat.le_refl _))]
      refine ⟨m, hS, fun q hq => (hA q hq).cg ⟨?_, ?_⟩, rfl⟩
      · rintro ⟨f, s, a, b, d, e⟩
        exact ⟨f, by omega, d, wl_mem.mpr ⟨s, a, e⟩⟩
      · rintro ⟨f, a, b, d⟩
        obtain ⟨s, e1, e2⟩ := wl_mem.mp d
        exact ⟨f, s, e1, by omega, b, e2⟩
    · have e1 : i % 5 < 5 := Nat.mod_lt _ (by omega)
      have e2 : i / 5 < w * h := by omega
      have e3 : 5 * (i / 5) + i % 5 = i := Nat.div_add_mod i 5
      have nxt : ∀ q, (∃ f s, s < 5 ∧ 5 * f + s < i + 1 ∧ A f ∧ wayS w h f s = some q) ↔ ((∃ f s, s < 5 ∧ 5 * f + s < i ∧ A f ∧ wayS w h f s = some q) ∨ (A (i / 5) ∧ wayS w h (i / 5) (i % 5) = some q)) := fun q => by
        constructor
        · rintro ⟨f, s, a, b, d, e⟩
          by_cases z : 5 * f + s < i
          · exact Or.inl ⟨f, s, a, z, d, e⟩
          · have z1 : f = i / 5 := by omega
            have z2 : s = i % 5 := by omega
            rw [z1, z2] at e
            rw [z1] at d
            exact Or.inr ⟨d, e⟩
        · rintro (⟨f, s, a, b, d⟩ | ⟨a, b⟩)
          · exact ⟨f, s, a, by omega, d⟩
          · exact ⟨i / 5, i % 5, e1, by omega, a, b⟩
      rw [if_neg (by rw [nI_leI (by omega) (by omega)]; omega), pk_div (by omega) (by omega) (by omega), remN (by omega) (by omega) (by omega), way_m M' e2 e1, gb_i, g_ixn (by omega) (by omega), nI_clamp (by omega), hS 21 (by decide), nI_1]
      rcases hA0 (i / 5) (by omega) with ⟨f1, f2⟩ | ⟨f1, f2⟩
      · rw [f1, i10]
        cases hw : wayS w h (i / 5) (i % 5) with
        | none =>
          rw [if_pos (show oI none = -1 from rfl)]
          exact ih (i + 1) m (by omega) (by omega) hS (fun q hq => (hA q hq).cg (by rw [nxt, hw]; simp))
        | some t =>
          have ht := wayS_lt M.1 e2 hw e1
          rw [show oI (some t) = nI t from rfl, if_neg (nI_m1 (by omega)), g_ixn (by omega) (by omega), nI_clamp (by omega), nb1, gl_s]
          refine ih (i + 1) _ (by omega) (by omega) (fun r z => (sir z).trans (hS r z)) (fun q hq => ?_)
          by_cases eq : q = t
          · subst eq; rw [si_eq]; exact Bq.t ((nxt q).mpr (Or.inr ⟨f2, hw⟩))
          · rw [si_nj eq]
            refine (hA q hq).cg ⟨fun z => (nxt q).mpr (Or.inl z), fun z => ((nxt q).mp z).elim id (fun b => ?_)⟩
            rw [hw] at b
            exact absurd (Option.some.inj b.2).symm eq
      · rw [f1, i00]
        exact ih (i + 1) m (by omega) (by omega) hS (fun q hq => (hA q hq).cg ⟨fun z => (nxt q).mpr (Or.inl z), fun z => ((nxt q).mp z).elim id (fun b => absurd b.1 f2)⟩)
theorem fc_126 {m0 : gS} {B : Nat → Prop} (hB : ∀ q, q < 40 → Bq (m0.1 22 q) (B q)) {k : Int32 → gS → gR} : ∀ (n i : Nat) (m : gS), i ≤ 40 → 40 - i < n → (∀ r, r ≠ 21 → m.1 r = m0.1 r) → (∀ q, q < i → Bq (m.1 21 q) (B q)) → ∃ m', (∀ r, r ≠ 21 → m'.1 r = m0.1 r) ∧ (∀ q, q < 40 → Bq (m'.1 21 q) (B q)) ∧ f_X10_findCan_126 v k n (nI i) m = k (nI 40) m' := by
  intro n
  induction n with
  | zero => intro i m _ h2; omega
  | succ n ih =>
    intro i m h1 h2 hS hA
    rw [f_X10_findCan_126.eq_2, c32_40]
    by_cases hi : 40 ≤ i
    · have e : i = 40 := by omega
      subst e
      rw [if_pos ((nI_leI (by omega) (by omega)).mpr (Nat.le_refl _))]
      exact ⟨m, hS, hA, rfl⟩
    · have hb := hB i (by omega)
      rw [if_neg (by rw [nI_leI (by omega) (by omega)]; omega), g_ixn (by omega) (by omega), g_ixn (by omega) (by omega), nI_clamp (by omega), hS 22 (by decide), hb.nb, gl_s, nI_1]
      refine ih (i + 1) _ (by omega) (by omega) (fun r z => (sir z).trans (hS r z)) (fun q hq => ?_)
      by_cases eq : q = i
      · subst eq; rw [si_eq]; exact hb
      · rw [si_nj eq]; exact hA q (by omega)
theorem fc_43 {m0 : gS} (M : Md m0 w h) (hh : m0.1 0 7 = nI hr) (hr8 : hr ≤ 8) (hns : ns ≤ 10) (h4 : m0.1 0 11 = nI ns) (hX : ∀ k, k < ns → m0.1 7 k = X k ∧ m0.1 8 k = Y k) {k : Int32 → gS → gR} : ∀ (n t : Nat) (m : gS), t ≤ hr → hr - t < n → R2 m0 m → (∀ q, q < 40 → Bq (m.1 21 q) (lnS w h ns X Y wk t q)) →
    ∃ m', R2 m0 m' ∧ (∀ q, q < 40 → Bq (m'.1 21 q) (lnS w h ns X Y wk hr q)) ∧ f_X10_findCan_43 k n (nI (t + 1)) m = k (nI (hr + 1)) m' := by
  have hn := M.1.n
  intro n
  induction n with
  | zero => intro t m _ h2; omega
  | succ n ih =>
    intro t m h1 h2 hS hA
    rw [f_X10_findCan_43.eq_2, hS 0 (by decide) (by decide), hh]
    by_cases hi : hr ≤ t
    · have e : t = hr := by omega
      subst e
      rw [if_pos ((nI_ltI (by omega) (by omega)).mpr (by omega))]
      exact ⟨m, hS, hA, rfl⟩
    · rw [if_neg (by rw [nI_ltI (by omega) (by omega)]; omega)]
      obtain ⟨m1, a1, a2, a3⟩ := fc_53 (m0 := m) (v := nI (t + 1)) (k := fun v2_7 s8 => (f_X10_findCan_74 (nI (t + 1)) (fun v2_14 s15 => (f_X10_findCan_126 (nI (t + 1)) (fun v2_17 s18 => (g_bind (f_X10_fit (nI (t + 1)) s18) (g_kv (fun s19 => (f_X10_findCan_43  k n (nI (t + 1) + 1) s19))))) g_N (0 : Int32) s15)) g_N (0 : Int32) s8)) g_N 0 m (by omega) (by unfold g_N; omega) (fun _ _ => rfl) (fun q hq => absurd hq (by omega))
      rw [← c32_0] at a3
      rw [a3]
      have M1 : Md m1 w h := by unfold Md at *; rw [a1 0 (by decide), hS 0 (by decide) (by decide)]; exact M
      obtain ⟨m2, b1, b2, b3⟩ := fc_74 (m0 := m1) (v := nI (t + 1)) M1 (fun q hq => by rw [a1 21 (by decide)]; exact hA q hq) (k := fun v2_14 s15 => (f_X10_findCan_126 (nI (t + 1)) (fun v2_17 s18 => (g_bind (f_X10_fit (nI (t + 1)) s18) (g_kv (fun s19 => (f_X10_findCan_43  k n (nI (t + 1) + 1) s19))))) g_N (0 : Int32) s15)) g_N 0 m1 (by omega) (by unfold g_N; omega) (fun _ _ => rfl) (fun q hq => by rw [a2 q hq]; exact Bq.f (fun ⟨f, s, _, z, _⟩ => by omega))
      rw [← c32_0] at b3
      rw [b3]
      obtain ⟨m3, d1, d2, d3⟩ := fc_126 (m0 := m2) (v := nI (t + 1)) b2 (k := fun v2_17 s18 => (g_bind (f_X10_fit (nI (t + 1)) s18) (g_kv (fun s19 => (f_X10_findCan_43  k n (nI (t + 1) + 1) s19))))) g_N 0 m2 (by omega) (by unfold g_N; omega) (fun _ _ => rfl) (fun q hq => absurd hq (by omega))
      rw [← c32_0] at d3
      rw [d3]
      have S3 : R2 m0 m3 := hS.tr (fun r x y => (d1 r x).trans ((b1 r y).trans (a1 r y)))
      obtain ⟨m4, e1, e2, e3⟩ := ft_m (m := m3) (v := nI (t + 1)) (X := X) (Y := Y) hns (by rw [S3 0 (by decide) (by decide)]; exact h4) (fun k hk => by rw [S3 7 (by decide) (by decide), S3 8 (by decide) (by decide)]; exact hX k hk) d2
      rw [e3, gb_v, nI_1]
      exact ih (t + 1) m4 (by omega) (by omega) (S3.tr e1) e2
theorem fc_m {m : gS} (M : Md m w h) (hh : m.1 0 7 = nI hr) (hr8 : hr ≤ 8) (hns : ns ≤ 10) (h4 : m.1 0 11 = nI ns) (hX : ∀ k, k < ns → m.1 7 k = X k ∧ m.1 8 k = Y k) (hwk : m.1 1 80 = oI wk) (hwn : ∀ q, wk = some q → q < w * h) : ∃ m', R2 m m' ∧ (∀ q, q < 40 → Bq (m'.1 21 q) (lnS w h ns X Y wk hr q)) ∧ f_X10_findCan m = some (none, m') := by
  have hn := M.1.n
  unfold f_X10_findCan
  obtain ⟨m1, a1, a2, a3⟩ := fc_2 (m0 := m) (wk := wk) hwk (fun q hq => by have := hwn q hq; omega) (k := fun v1_3 s4 => (g_bind (f_X10_fit (0 : Int32) s4) (g_kv (fun s5 => (f_X10_findCan_43  (fun v1_20 s21 => (some (none, s21))) g_N (1 : Int32) s5))))) g_N 0 m (by omega) (by unfold g_N; omega) R2.rf (fun q hq => absurd hq (by omega))
  rw [← c32_0] at a3
  rw [a3]
  obtain ⟨m2, b1, b2, b3⟩ := ft_m (m := m1) (v := nI 0) (X := X) (Y := Y) hns (by rw [a1 0 (by decide) (by decide)]; exact h4) (fun k hk => by rw [a1 7 (by decide) (by decide), a1 8 (by decide) (by decide)]; exact hX k hk) a2
  have S2' := a1.tr b1
  have M2' : Md m2 w h := by unfold Md at *; rw [S2' 0 (by decide) (by decide)]; exact M
  obtain ⟨m3, d1, d2, d3⟩ := fc_43 (m0 := m2) (wk := wk) (k := fun v1_20 s21 => (some (none, s21))) M2' (by rw [S2' 0 (by decide) (by decide)]; exact hh) hr8 hns (by rw [S2' 0 (by decide) (by decide)]; exact h4) (fun k hk => by rw [S2' 7 (by decide) (by decide), S2' 8 (by decide) (by decide)]; exact hX k hk) g_N 0 m2 (by omega) (by unfold g_N; omega) R2.rf b2
  rw [c32_0, b3, gb_v, c32_1]
  exact ⟨m3, S2'.tr d1, d2, d3⟩
end LAYF
