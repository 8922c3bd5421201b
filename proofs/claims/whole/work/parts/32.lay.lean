/-! Where she can have lain -/
def Bq (x : Int32) (P : Prop) : Prop := (x = 1 ∧ P) ∨ (x = 0 ∧ ¬ P)
theorem Bq.t {P : Prop} (h : P) : Bq 1 P := Or.inl ⟨rfl, h⟩
theorem Bq.f {P : Prop} (h : ¬ P) : Bq 0 P := Or.inr ⟨rfl, h⟩
theorem Bq.cg {x : Int32} {P Q : Prop} (h : Bq x P) (e : P ↔ Q) : Bq x Q := by
  rcases h with ⟨a, b⟩ | ⟨a, b⟩
  · exact Or.inl ⟨a, e.mp b⟩
  · exact Or.inr ⟨a, fun z => b (e.mpr z)⟩
theorem nb0 : vp_nar .boolean (0 : Int32) = 0 := rfl
theorem nb1 : vp_nar .boolean (1 : Int32) = 1 := rfl
theorem Bq.nb {x : Int32} {P : Prop} (h : Bq x P) : vp_nar .boolean x = x := by
  rcases h with ⟨rfl, _⟩ | ⟨rfl, _⟩
  · exact nb1
  · exact nb0
theorem take_s (L : List Nat) (i q : Nat) : q ∈ L.take (i + 1) ↔ q ∈ L.take i ∨ L[i]? = some q := by
  rw [List.take_add_one]
  simp [Option.mem_toList]
def kp (X Y : Nat → Int32) (v : Int32) (j : Nat) (A : Nat → Prop) : Nat → Prop := fun q => A q ∧ ∀ k, k < j → Y k = v → nI q = X k
def sp (w h : Nat) (A : Nat → Prop) : Nat → Prop := fun q => ∃ f, f < w * h ∧ A f ∧ q ∈ wayL w h f
section LAYC
variable {w h ns : Nat} {X Y : Nat → Int32} {v : Int32}
theorem ks_31 {c0 : gS} {j : Nat} {A : Nat → Prop} {x : Int32} (hj : j < 10) (hX : c0.1 42 j = x) {k : Int32 → gS → gR} : ∀ (n i : Nat) (c : gS), i ≤ 40 → 40 - i < n → Sm [44] c0 c → (∀ q, q < 40 → Bq (c.1 44 q) (A q ∧ (q < i → nI q = x))) →
    ∃ c', Sm [44] c0 c' ∧ (∀ q, q < 40 → Bq (c'.1 44 q) (A q ∧ nI q = x)) ∧ f_X6_keepSeen_31 v (nI j) k n (nI i) c = k (nI 40) c' := by
  intro n
  induction n with
  | zero => intro i c _ h2; omega
  | succ n ih =>
    intro i c h1 h2 hS hA
    rw [f_X6_keepSeen_31.eq_2, c32_40]
    by_cases hi : 40 ≤ i
    · have e : i = 40 := by omega
      subst e
      rw [if_pos ((nI_leI (by omega) (by omega)).mpr (Nat.le_refl _))]
      exact ⟨c, hS, fun q hq => (hA q hq).cg ⟨fun z => ⟨z.1, z.2 hq⟩, fun z => ⟨z.1, fun _ => z.2⟩⟩, rfl⟩
    · rw [if_neg (by rw [nI_leI (by omega) (by omega)]; omega), g_ixn (by omega) (by omega), nI_clamp (by omega), (hS 42 (by simp)).1, hX, nI_1]
      by_cases e : nI i = x
      · rw [if_pos e]
        refine ih (i + 1) c (by omega) (by omega) hS (fun q hq => (hA q hq).cg ⟨fun z => ⟨z.1, fun a => ?_⟩, fun z => ⟨z.1, fun a => z.2 (by omega)⟩⟩)
        by_cases eq : q = i
        · rw [eq]; exact e
        · exact z.2 (by omega)
      · rw [if_neg e, g_ixn (by omega) (by omega), nI_clamp (by omega), nb0, gl_s]
        refine ih (i + 1) _ (by omega) (by omega) (hS.tr (Sm.si (by simp))) (fun q hq => ?_)
        by_cases eq : q = i
        · subst eq
          rw [si_eq]
          exact Bq.f (fun z => e (z.2 (by omega)))
        · rw [si_nj eq]
          exact (hA q hq).cg ⟨fun z => ⟨z.1, fun a => z.2 (by omega)⟩, fun z => ⟨z.1, fun a => z.2 (by omega)⟩⟩
theorem ks_2 {c0 : gS} {A : Nat → Prop} (hns : ns ≤ 10) (h4 : c0.1 41 4 = nI ns) (hX : ∀ k, k < ns → c0.1 42 k = X k ∧ c0.1 43 k = Y k) {k : Int32 → gS → gR} : ∀ (n j : Nat) (c : gS), j ≤ ns → ns - j < n → Sm [44] c0 c → (∀ q, q < 40 → Bq (c.1 44 q) (kp X Y v j A q)) →
    ∃ c', Sm [44] c0 c' ∧ (∀ q, q < 40 → Bq (c'.1 44 q) (kp X Y v ns A q)) ∧ f_X6_keepSeen_2 v k n (nI j) c = k (nI ns) c' := by
  intro n
  induction n with
  | zero => intro j c _ h2; omega
  | succ n ih =>
    intro j c h1 h2 hS hA
    rw [f_X6_keepSeen_2.eq_2, (hS 41 (by simp)).1, h4]
    by_cases hi : ns ≤ j
    · have e : j = ns := by omega
      subst e
      rw [if_pos ((nI_leI (by omega) (by omega)).mpr (Nat.le_refl _))]
      exact ⟨c, hS, hA, rfl⟩
    · rw [if_neg (by rw [nI_leI (by omega) (by omega)]; omega), show (10 : Int32) = nI 10 from rfl, if_neg (by rw [nI_leI (by omega) (by omega)]; omega), g_ixn (by omega) (by omega), nI_clamp (by omega), (hS 43 (by simp)).1, (hX j (by omega)).2]
      by_cases e : Y j = v
      · rw [if_pos e]
        obtain ⟨c1, a1, a2, a3⟩ := ks_31 (c0 := c) (j := j) (A := kp X Y v j A) (v := v) (x := X j) (by omega) (by rw [(hS 42 (by simp)).1]; exact (hX j (by omega)).1) (k := fun v3_2 s3 => f_X6_keepSeen_2 v k n (nI j + 1) s3) g_N 0 c (by omega) (by unfold g_N; omega) Sm.rf (fun q hq => (hA q hq).cg ⟨fun z => ⟨z, fun a => absurd a (by omega)⟩, fun z => z.1⟩)
        rw [c32_0, a3, nI_1]
        refine ih (j + 1) c1 (by omega) (by omega) (hS.tr a1) (fun q hq => (a2 q hq).cg ⟨fun z => ⟨z.1.1, fun k hk hy => ?_⟩, fun z => ⟨⟨z.1, fun k hk hy => z.2 k (by omega) hy⟩, z.2 j (by omega) e⟩⟩)
        by_cases ek : k = j
        · rw [ek]; exact z.2
        · exact z.1.2 k (by omega) hy
      · rw [if_neg e, nI_1]
        refine ih (j + 1) c (by omega) (by omega) hS (fun q hq => (hA q hq).cg ⟨fun z => ⟨z.1, fun k hk hy => ?_⟩, fun z => ⟨z.1, fun k hk hy => z.2 k (by omega) hy⟩⟩)
        by_cases ek : k = j
        · rw [ek] at hy; exact absurd hy e
        · exact z.2 k (by omega) hy
theorem ks_c {c : gS} {A : Nat → Prop} (hns : ns ≤ 10) (h4 : c.1 41 4 = nI ns) (hX : ∀ k, k < ns → c.1 42 k = X k ∧ c.1 43 k = Y k) (hA : ∀ q, q < 40 → Bq (c.1 44 q) (A q)) : ∃ c', Sm [44] c c' ∧ (∀ q, q < 40 → Bq (c'.1 44 q) (kp X Y v ns A q)) ∧ f_X6_keepSeen v c = some (none, c') := by
  unfold f_X6_keepSeen
  rw [c32_0]
  exact ks_2 (k := fun v2_4 s5 => some (none, s5)) hns h4 hX g_N 0 c (by omega) (by unfold g_N; omega) Sm.rf (fun q hq => (hA q hq).cg ⟨fun z => ⟨z, fun k hk => absurd hk (by omega)⟩, fun z => z.1⟩)
theorem rf_2 {c0 : gS} {f : Nat} {B : Nat → Prop} (L : Ld c0 14 w h) (hf : f < w * h) {k : Int32 → gS → gR} : ∀ (n i : Nat) (c : gS), i ≤ 5 → 5 - i < n → Sm [45] c0 c → (∀ q, q < 40 → Bq (c.1 45 q) (B q ∨ q ∈ (wayL w h f).take i)) →
    ∃ c', Sm [45] c0 c' ∧ (∀ q, q < 40 → Bq (c'.1 45 q) (B q ∨ q ∈ wayL w h f)) ∧ f_X6_reachFrom_2 (nI f) k n (nI i) c = k (nI 5) c' := by
  have hlen := way_len L.1 hf
  have hn := L.1.n
  intro n
  induction n with
  | zero => intro i c _ h2; omega
  | succ n ih =>
    intro i c h1 h2 hS hA
    have Lc : Ld c 14 w h := L.congr (fun k a b => (hS k (by simp; omega)).1)
    rw [f_X6_reachFrom_2.eq_2, c32_5]
    by_cases hi : 5 ≤ i
    · have e : i = 5 := by omega
      subst e
      rw [if_pos ((nI_leI (by omega) (by omega)).mpr (Nat.le_refl _))]
      rw [List.take_of_length_le hlen.2.1] at hA
      exact ⟨c, hS, hA, rfl⟩
    · rw [if_neg (by rw [nI_leI (by omega) (by omega)]; omega), wayFrom_in Lc hf (by omega), gb_i]
      rcases dropc (wayL w h f) i with ⟨e1, e2, e3⟩ | ⟨t, ht, e1, e2⟩
      · rw [e1, show oI none = -1 from rfl, has_no, gb_i, i00, nI_1]
        exact ih (i + 1) c (by omega) (by omega) hS (fun q hq => (hA q hq).cg (by rw [take_s, e1]; simp))
      · have htn := hlen.2.2 t ht
        rw [e1, show oI (some t) = nI t from rfl, has_in Lc htn, gb_i, i10, g_ixn (by omega) (by omega), nI_clamp (by omega), nb1, gl_s, nI_1]
        refine ih (i + 1) _ (by omega) (by omega) (hS.tr (Sm.si (by simp))) (fun q hq => ?_)
        rw [take_s, e1]
        by_cases eq : q = t
        · subst eq
          rw [si_eq]
          exact Bq.t (Or.inr (Or.inr rfl))
        · rw [si_nj eq]
          refine (hA q hq).cg ⟨fun z => z.elim Or.inl (fun a => Or.inr (Or.inl a)), fun z => z.elim Or.inl (fun a => a.elim Or.inr (fun b => ?_))⟩
          cases b
          exact absurd rfl eq
theorem spz {c0 : gS} {k : Int32 → gS → gR} : ∀ (n i : Nat) (c : gS), i ≤ 40 → 40 - i < n → Sm [45] c0 c → (∀ q, q < i → c.1 45 q = 0) → ∃ c', Sm [45] c0 c' ∧ (∀ q, q < 40 → c'.1 45 q = 0) ∧ f_X6_spread_2 k n (nI i) c = k (nI 40) c' := by
  intro n
  induction n with
  | zero => intro i c _ h2; omega
  | succ n ih =>
    intro i c h1 h2 hS hA
    rw [f_X6_spread_2.eq_2, c32_40]
    by_cases hi : 40 ≤ i
    · have e : i = 40 := by omega
      subst e
      rw [if_pos ((nI_leI (by omega) (by omega)).mpr (Nat.le_refl _))]
      exact ⟨c, hS, hA, rfl⟩
    · rw [if_neg (by rw [nI_leI (by omega) (by omega)]; omega), g_ixn (by omega) (by omega), nI_clamp (by omega), nb0, gl_s, nI_1]
      refine ih (i + 1) _ (by omega) (by omega) (hS.tr (Sm.si (by simp))) (fun q hq => ?_)
      by_cases eq : q = i
      · subst eq; rw [si_eq]
      · rw [si_nj eq]; exact hA q (by omega)
theorem sp_23 {c0 : gS} {A : Nat → Prop} (L : Ld c0 14 w h) (hA0 : ∀ q, q < 40 → Bq (c0.1 44 q) (A q)) {k : Int32 → gS → gR} : ∀ (n i : Nat) (c : gS), i ≤ w * h → w * h - i < n → Sm [45] c0 c → (∀ q, q < 40 → Bq (c.1 45 q) (∃ f, f < i ∧ A f ∧ q ∈ wayL w h f)) →
    ∃ c', Sm [45] c0 c' ∧ (∀ q, q < 40 → Bq (c'.1 45 q) (sp w h A q)) ∧ f_X6_spread_23 k n (nI i) c = k (nI (w * h)) c' := by
  have hn := L.1.n
  intro n
  induction n with
  | zero => intro i c _ h2; omega
  | succ n ih =>
    intro i c h1 h2 hS hA
    have Lc : Ld c 14 w h := L.congr (fun k a b => (hS k (by simp; omega)).1)
    rw [f_X6_spread_23.eq_2, Lc.2.2.2.1]
    by_cases hi : w * h ≤ i
    · have e : i = w * h := by omega
      subst e
      rw [if_pos ((nI_leI (by omega) (by omega)).mpr (Nat.le_refl _))]
      exact ⟨c, hS, hA, rfl⟩
    · rw [if_neg (by rw [nI_leI (by omega) (by omega)]; omega), g_ixn (by omega) (by omega), nI_clamp (by omega), (hS 44 (by simp)).1]
      have st : ∀ q, ((∃ f, f < i ∧ A f ∧ q ∈ wayL w h f) ∨ (A i ∧ q ∈ wayL w h i)) ↔ ∃ f, f < i + 1 ∧ A f ∧ q ∈ wayL w h f := fun q =>
        ⟨fun z => z.elim (fun ⟨f, a, b⟩ => ⟨f, by omega, b⟩) (fun b => ⟨i, by omega, b⟩), fun ⟨f, a, b⟩ => by
          by_cases e : f = i
          · rw [e] at b; exact Or.inr b
          · exact Or.inl ⟨f, by omega, b⟩⟩
      rcases hA0 i (by omega) with ⟨e1, e2⟩ | ⟨e1, e2⟩
      · rw [e1, i10]
        unfold f_X6_reachFrom
        obtain ⟨c1, a1, a2, a3⟩ := rf_2 (B := fun q => ∃ f, f < i ∧ A f ∧ q ∈ wayL w h f) (f := i) Lc (by omega) (k := fun v2_6 s7 => some (none, s7)) g_N 0 c (by omega) (by unfold g_N; omega) Sm.rf (fun q hq => (hA q hq).cg ⟨Or.inl, fun z => z.elim id (fun a => by simp at a)⟩)
        rw [c32_0, a3, gb_v, nI_1]
        exact ih (i + 1) c1 (by omega) (by omega) (hS.tr a1) (fun q hq => (a2 q hq).cg ⟨fun z => (st q).mp (z.elim Or.inl (fun b => Or.inr ⟨e2, b⟩)), fun z => ((st q).mpr z).elim Or.inl (fun b => Or.inr b.2)⟩)
      · rw [e1, i00, nI_1]
        exact ih (i + 1) c (by omega) (by omega) hS (fun q hq => (hA q hq).cg ⟨fun z => (st q).mp (Or.inl z), fun z => ((st q).mpr z).elim id (fun b => absurd b.1 e2)⟩)
theorem sp_56 {c0 : gS} {B : Nat → Prop} (hB : ∀ q, q < 40 → Bq (c0.1 45 q) (B q)) {k : Int32 → gS → gR} : ∀ (n i : Nat) (c : gS), i ≤ 40 → 40 - i < n → Sm [44] c0 c → (∀ q, q < i → Bq (c.1 44 q) (B q)) → ∃ c', Sm [44] c0 c' ∧ (∀ q, q < 40 → Bq (c'.1 44 q) (B q)) ∧ f_X6_spread_56 k n (nI i) c = k (nI 40) c' := by
  intro n
  induction n with
  | zero => intro i c _ h2; omega
  | succ n ih =>
    intro i c h1 h2 hS hA
    rw [f_X6_spread_56.eq_2, c32_40]
    by_cases hi : 40 ≤ i
    · have e : i = 40 := by omega
      subst e
      rw [if_pos ((nI_leI (by omega) (by omega)).mpr (Nat.le_refl _))]
      exact ⟨c, hS, hA, rfl⟩
    · have hb := hB i (by omega)
      rw [if_neg (by rw [nI_leI (by omega) (by omega)]; omega), g_ixn (by omega) (by omega), g_ixn (by omega) (by omega), nI_clamp (by omega), (hS 45 (by simp)).1, hb.nb, gl_s, nI_1]
      refine ih (i + 1) _ (by omega) (by omega) (hS.tr (Sm.si (by simp))) (fun q hq => ?_)
      by_cases eq : q = i
      · subst eq; rw [si_eq]; exact hb
      · rw [si_nj eq]; exact hA q (by omega)
theorem sp_c {c : gS} {A : Nat → Prop} (L : Ld c 14 w h) (hA : ∀ q, q < 40 → Bq (c.1 44 q) (A q)) : ∃ c', Sm [44, 45] c c' ∧ (∀ q, q < 40 → Bq (c'.1 44 q) (sp w h A q)) ∧ f_X6_spread c = some (none, c') := by
  have hn := L.1.n
  unfold f_X6_spread
  obtain ⟨c1, a1, a2, a3⟩ := spz (c0 := c) (k := fun v1_2 s3 => (f_X6_spread_23  (fun v1_5 s6 => (f_X6_spread_56  (fun v1_8 s9 => (some (none, s9))) g_N (0 : Int32) s6)) g_N (0 : Int32) s3)) g_N 0 c (by omega) (by unfold g_N; omega) Sm.rf (fun q hq => absurd hq (by omega))
  rw [c32_0] at a3 ⊢
  rw [a3]
  have L1 : Ld c1 14 w h := L.congr (fun k a b => (a1 k (by simp; omega)).1)
  obtain ⟨c2, b1, b2, b3⟩ := sp_23 (c0 := c1) (A := A) L1 (fun q hq => by rw [(a1 44 (by simp)).1]; exact hA q hq) (k := fun v1_5 s6 => (f_X6_spread_56  (fun v1_8 s9 => (some (none, s9))) g_N (nI 0) s6)) g_N 0 c1 (by omega) (by unfold g_N; omega) Sm.rf (fun q hq => by rw [a2 q hq]; exact Bq.f (fun ⟨f, z, _⟩ => by omega))
  rw [b3]
  obtain ⟨c3, d1, d2, d3⟩ := sp_56 (c0 := c2) (B := sp w h A) b2 (k := fun v1_8 s9 => some (none, s9)) g_N 0 c2 (by omega) (by unfold g_N; omega) Sm.rf (fun q hq => absurd hq (by omega))
  exact ⟨c3, ((a1.mono (fun k hk => by simp at hk ⊢; omega)).tr (b1.mono (fun k hk => by simp at hk ⊢; omega))).tr (d1.mono (fun k hk => by simp at hk ⊢; omega)), d2, d3⟩
end LAYC
