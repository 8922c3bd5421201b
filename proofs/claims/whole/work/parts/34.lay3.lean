/-! The call that tells where she can have lain -/
theorem Mk.r2 {m m' : gS} (e : R2 m m') : Mk m m' := by
  refine ⟨?_, fun k a b => e k (by omega) (by omega)⟩
  rw [e 0 (by decide) (by decide)]
  simp
section LAYO
variable {w h law : Nat} {ti : Nat → Nat} {A : Nat → Prop} {v1 v2 : Int32}
theorem lay_it {c m : gS} (L : Ld c 14 w h) (ht : ∀ q, q < w * h → c.1 (14 + 5) q = nI (ti q) ∧ ti q ≤ 99) (hl : c.1 22 9 = nI law) (hlaw : law < 3) (hA : ∀ q, q < 40 → Bq (c.1 44 q) (A q)) (M : Md m w h) (htm : ∀ q, q < w * h → m.1 5 q = nI (ti q) ∧ ti q ≤ 99) (hlm : m.1 1 86 = nI law) (hAm : ∀ q, q < 40 → Bq (m.1 21 q) (A q)) {q : Nat} (hq : q < w * h) :
    (f_X6_fits (nI q) v1 c = some (some (.int 0), c) ∧ ∀ n v3 v4 k, f_X10_lay_29 v1 v2 k (n + 1) v3 v4 (nI q) m = f_X10_lay_29 v1 v2 k n v3 v4 (nI (q + 1)) m) ∨
    (f_X6_fits (nI q) v1 c = some (some (.int 1), c) ∧ ∀ n v3 v4 k, f_X10_lay_29 v1 v2 k (n + 1) v3 v4 (nI q) m = if v3 = v2 then f_X10_lay_29 v1 v2 k n (v3 + 1) (plI w (some q)) (nI (q + 1)) m else f_X10_lay_29 v1 v2 k n (v3 + 1) v4 (nI (q + 1)) m) := by
  have hn := M.1.n
  have hst : ∀ n v3 v4 k, f_X10_lay_29 v1 v2 k (n + 1) v3 v4 (nI q) m = (if (m.1 21 q) = 0 then (f_X10_lay_29 v1 v2 k n v3 v4 (nI (q + 1)) m) else (if v1 = (-1 : Int32) then (if v3 = v2 then (g_bind (f_X10_named (nI q) m) (g_ki (fun r7 s6 => (f_X10_lay_29 v1 v2 k n (v3 + 1) r7 (nI (q + 1)) s6)))) else (f_X10_lay_29 v1 v2 k n (v3 + 1) v4 (nI (q + 1)) m)) else (g_bind (f_X10_tithesOf (0 : Int32) (nI q) m) (g_ki (fun r9 s8 => (if r9 = v1 then (if v3 = v2 then (g_bind (f_X10_named (nI q) s8) (g_ki (fun r11 s10 => (f_X10_lay_29 v1 v2 k n (v3 + 1) r11 (nI (q + 1)) s10)))) else (f_X10_lay_29 v1 v2 k n (v3 + 1) v4 (nI (q + 1)) s8)) else (f_X10_lay_29 v1 v2 k n v3 v4 (nI (q + 1)) s8))))))) := fun n v3 v4 k => by
    rw [f_X10_lay_29.eq_2, cells_m M, gb_i, if_neg (by rw [nI_leI (by omega) (by omega)]; omega), g_ixn (by omega) (by omega), nI_clamp (by omega), nI_1]
  have hnm : f_X10_named (nI q) m = some (some (.int (plI w (some q))), m) := named_in M hq
  unfold f_X6_fits
  rw [has_in L hq, gb_i, i10, g_ixn (by omega) (by omega), nI_clamp (by omega)]
  have h44 := hA q (by omega)
  have h21 := hAm q (by omega)
  rcases h44 with ⟨a1, a2⟩ | ⟨a1, a2⟩
  · rcases h21 with ⟨b1, b2⟩ | ⟨b1, b2⟩
    · rw [a1, i10]
      simp only [b1] at hst
      by_cases e : v1 = -1
      · rw [if_pos e]
        refine Or.inr ⟨rfl, fun n v3 v4 k => ?_⟩
        rw [hst, i10, if_pos e, hnm, gb_i]
      · rw [if_neg e, hl, c32_0, tithes_c L ht hq hlaw (by omega), gb_i]
        by_cases e2 : nI (tS ti law w 0 q (w * h)) = v1
        · rw [if_pos e2]
          refine Or.inr ⟨rfl, fun n v3 v4 k => ?_⟩
          rw [hst, i10, if_neg e, c32_0, tithes_m M hlm htm hq hlaw (by omega), gb_i, if_pos e2, hnm, gb_i]
        · rw [if_neg e2]
          refine Or.inl ⟨rfl, fun n v3 v4 k => ?_⟩
          rw [hst, i10, if_neg e, c32_0, tithes_m M hlm htm hq hlaw (by omega), gb_i, if_neg e2]
    · exact absurd a2 b2
  · rcases h21 with ⟨b1, b2⟩ | ⟨b1, b2⟩
    · exact absurd b2 a2
    · rw [a1, i00]
      refine Or.inl ⟨rfl, fun n v3 v4 k => ?_⟩
      rw [hst, b1, i00]
/-- the count -/
theorem lay_cnt {c m : gS} (L : Ld c 14 w h) (M : Md m w h) (it : ∀ q, q < w * h → (f_X6_fits (nI q) v1 c = some (some (.int 0), c) ∧ ∀ n v3 v4 k, f_X10_lay_29 v1 v2 k (n + 1) v3 v4 (nI q) m = f_X10_lay_29 v1 v2 k n v3 v4 (nI (q + 1)) m) ∨
    (f_X6_fits (nI q) v1 c = some (some (.int 1), c) ∧ ∀ n v3 v4 k, f_X10_lay_29 v1 v2 k (n + 1) v3 v4 (nI q) m = if v3 = v2 then f_X10_lay_29 v1 v2 k n (v3 + 1) (plI w (some q)) (nI (q + 1)) m else f_X10_lay_29 v1 v2 k n (v3 + 1) v4 (nI (q + 1)) m)) {kc : Int32 → Int32 → gS → gR} {km : Int32 → Int32 → Int32 → gS → gR} : ∀ (d n n' i a : Nat) (v4 : Int32), w * h - i = d → i ≤ w * h → d < n → d < n' →
    ∃ (x v4' : Int32), f_X6_countFitting_4 v1 kc n (nI a) (nI i) c = kc x (nI (w * h)) c ∧ f_X10_lay_29 v1 v2 km n' (nI a) v4 (nI i) m = km x v4' (nI (w * h)) m := by
  have hn := M.1.n
  intro d
  induction d with
  | zero =>
    intro n n' i a v4 h1 h2 h3 h4
    obtain ⟨n0, rfl⟩ : ∃ k, n = k + 1 := ⟨n - 1, by omega⟩
    obtain ⟨n0', rfl⟩ : ∃ k, n' = k + 1 := ⟨n' - 1, by omega⟩
    have e : i = w * h := by omega
    subst e
    rw [f_X6_countFitting_4.eq_2, f_X10_lay_29.eq_2, cells_m M, gb_i, L.2.2.2.1, if_pos ((nI_leI (by omega) (by omega)).mpr (Nat.le_refl _)), if_pos ((nI_leI (by omega) (by omega)).mpr (Nat.le_refl _))]
    exact ⟨_, _, rfl, rfl⟩
  | succ d ih =>
    intro n n' i a v4 h1 h2 h3 h4
    obtain ⟨n0, rfl⟩ : ∃ k, n = k + 1 := ⟨n - 1, by omega⟩
    obtain ⟨n0', rfl⟩ : ∃ k, n' = k + 1 := ⟨n' - 1, by omega⟩
    rw [f_X6_countFitting_4.eq_2, L.2.2.2.1, if_neg (by rw [nI_leI (by omega) (by omega)]; omega)]
    rcases it i (by omega) with ⟨e1, e2⟩ | ⟨e1, e2⟩
    · rw [e1, gb_i, i00, e2, nI_1]
      exact ih n0 n0' (i + 1) a v4 (by omega) (by omega) (by omega) (by omega)
    · rw [e1, gb_i, i10, e2, nI_1, nI_1]
      by_cases e : nI a = v2
      · rw [if_pos e]
        exact ih n0 n0' (i + 1) (a + 1) _ (by omega) (by omega) (by omega) (by omega)
      · rw [if_neg e]
        exact ih n0 n0' (i + 1) (a + 1) v4 (by omega) (by omega) (by omega) (by omega)
/-- past the asked one nothing changes -/
theorem lay_past {c m : gS} {j : Nat} (L : Ld c 14 w h) (M : Md m w h) (hv : v2 = nI j) (it : ∀ q, q < w * h → (f_X6_fits (nI q) v1 c = some (some (.int 0), c) ∧ ∀ n v3 v4 k, f_X10_lay_29 v1 v2 k (n + 1) v3 v4 (nI q) m = f_X10_lay_29 v1 v2 k n v3 v4 (nI (q + 1)) m) ∨
    (f_X6_fits (nI q) v1 c = some (some (.int 1), c) ∧ ∀ n v3 v4 k, f_X10_lay_29 v1 v2 k (n + 1) v3 v4 (nI q) m = if v3 = v2 then f_X10_lay_29 v1 v2 k n (v3 + 1) (plI w (some q)) (nI (q + 1)) m else f_X10_lay_29 v1 v2 k n (v3 + 1) v4 (nI (q + 1)) m)) {km : Int32 → Int32 → Int32 → gS → gR} : ∀ (d n' i a : Nat) (v4 : Int32), w * h - i = d → i ≤ w * h → d < n' → j < a → a ≤ i →
    ∃ (x : Int32), f_X10_lay_29 v1 v2 km n' (nI a) v4 (nI i) m = km x v4 (nI (w * h)) m := by
  have hn := M.1.n
  intro d
  induction d with
  | zero =>
    intro n' i a v4 h1 h2 h4 h5 h6
    obtain ⟨n0', rfl⟩ : ∃ k, n' = k + 1 := ⟨n' - 1, by omega⟩
    have e : i = w * h := by omega
    subst e
    rw [f_X10_lay_29.eq_2, cells_m M, gb_i, if_pos ((nI_leI (by omega) (by omega)).mpr (Nat.le_refl _))]
    exact ⟨_, rfl⟩
  | succ d ih =>
    intro n' i a v4 h1 h2 h4 h5 h6
    obtain ⟨n0', rfl⟩ : ∃ k, n' = k + 1 := ⟨n' - 1, by omega⟩
    rcases it i (by omega) with ⟨e1, e2⟩ | ⟨e1, e2⟩
    · rw [e2]
      exact ih n0' (i + 1) a v4 (by omega) (by omega) (by omega) (by omega) (by omega)
    · rw [e2, if_neg (by rw [hv, nI_eq (by omega) (by omega)]; omega), nI_1]
      exact ih n0' (i + 1) (a + 1) v4 (by omega) (by omega) (by omega) (by omega) (by omega)
theorem lay_cell {c m : gS} (L : Ld c 14 w h) (M : Md m w h) (it : ∀ q, q < w * h → (f_X6_fits (nI q) v1 c = some (some (.int 0), c) ∧ ∀ n v3 v4 k, f_X10_lay_29 v1 v2 k (n + 1) v3 v4 (nI q) m = f_X10_lay_29 v1 v2 k n v3 v4 (nI (q + 1)) m) ∨
    (f_X6_fits (nI q) v1 c = some (some (.int 1), c) ∧ ∀ n v3 v4 k, f_X10_lay_29 v1 v2 k (n + 1) v3 v4 (nI q) m = if v3 = v2 then f_X10_lay_29 v1 v2 k n (v3 + 1) (plI w (some q)) (nI (q + 1)) m else f_X10_lay_29 v1 v2 k n (v3 + 1) v4 (nI (q + 1)) m)) {km : Int32 → Int32 → Int32 → gS → gR} : ∀ (d n n' i a : Nat), w * h - i = d → i ≤ w * h → d < n → d < n' → a ≤ i →
    ∃ (o : Option Nat) (x : Int32), (∀ q, o = some q → q < w * h) ∧ f_X6_fittingCell_5 v1 v2 (fun _ _ s => some (some (.int (-1 : Int32)), s)) n (nI a) (nI i) c = some (some (.int (oI o)), c) ∧ f_X10_lay_29 v1 v2 km n' (nI a) (-1) (nI i) m = km x (plI w o) (nI (w * h)) m := by
  have hn := M.1.n
  intro d
  induction d with
  | zero =>
    intro n n' i a h1 h2 h3 h4 h5
    obtain ⟨n0, rfl⟩ : ∃ k, n = k + 1 := ⟨n - 1, by omega⟩
    obtain ⟨n0', rfl⟩ : ∃ k, n' = k + 1 := ⟨n' - 1, by omega⟩
    have e : i = w * h := by omega
    subst e
    rw [f_X6_fittingCell_5.eq_2, f_X10_lay_29.eq_2, cells_m M, gb_i, L.2.2.2.1, if_pos ((nI_leI (by omega) (by omega)).mpr (Nat.le_refl _)), if_pos ((nI_leI (by omega) (by omega)).mpr (Nat.le_refl _))]
    exact ⟨none, nI a, fun q hq => (by cases hq), rfl, rfl⟩
  | succ d ih =>
    intro n n' i a h1 h2 h3 h4 h5
    obtain ⟨n0, rfl⟩ : ∃ k, n = k + 1 := ⟨n - 1, by omega⟩
    obtain ⟨n0', rfl⟩ : ∃ k, n' = k + 1 := ⟨n' - 1, by omega⟩
    rw [f_X6_fittingCell_5.eq_2, L.2.2.2.1, if_neg (by rw [nI_leI (by omega) (by omega)]; omega)]
    rcases it i (by omega) with ⟨e1, e2⟩ | ⟨e1, e2⟩
    · rw [e1, gb_i, i00, e2, nI_1]
      exact ih n0 n0' (i + 1) a (by omega) (by omega) (by omega) (by omega) (by omega)
    · rw [e1, gb_i, i10, e2, nI_1]
      by_cases e : nI a = v2
      · rw [if_pos e, if_pos e]
        obtain ⟨x, hx⟩ := lay_past (km := km) L M e.symm it d n0' (i + 1) (a + 1) (plI w (some i)) (by omega) (by omega) (by omega) (by omega) (by omega)
        exact ⟨some i, x, fun q hq => (by cases hq; omega), rfl, hx⟩
      · rw [if_neg e, if_neg e, nI_1]
        exact ih n0 n0' (i + 1) (a + 1) (by omega) (by omega) (by omega) (by omega) (by omega)
end LAYO
theorem lay_t {c m : gS} (R : Rel c m) (v1 v2 : Int32) : Ag (g_bind (f_X6_followToNoon c) (g_kv (fun s1 => (if v2 = (-1 : Int32) then (g_bind (f_X6_countFitting v1 s1) (g_ki (fun r7 s6 => (some (some (.int r7), s6))))) else (g_bind (f_X6_fittingCell v1 v2 s1) (g_ki (fun r3 s2 => (g_bind (f_X3_placeOf 14 r3 s2) (g_ki (fun r5 s4 => (some (some (.int r5), s4)))))))))))) (g_bind (f_X10_findCan m) (g_kv (fun s3 => (f_X10_lay_29 v1 v2 (fun v3_12 v4_13 v5_14 s15 => (if v2 = (-1 : Int32) then (some (some (.int v3_12), s15)) else (some (some (.int v4_13), s15)))) g_N (0 : Int32) (-1 : Int32) (0 : Int32) s3)))) := by
  obtain ⟨w, h, hr, l, th, ti, L, ⟨gr, fg, wk, noon, lick, law, sd, P⟩, I0, I1, S, B, T, E⟩ := id R
  have hn := L.1.1.n
  have Cc := L.cx P
  obtain ⟨C, F⟩ := L.mx P
  obtain ⟨ns, s1, s2, s3, s4⟩ := S
  have hX : ∀ k, k < ns → c.1 42 k = m.1 7 k ∧ c.1 43 k = m.1 8 k := fun k hk => by
    obtain ⟨q, x, a1, a2, a3, a4, a5, a6⟩ := s4 k hk
    exact ⟨a3.trans a4.symm, a5.trans a6.symm⟩
  obtain ⟨c1, a1, a2, a3⟩ := fn_c (X := m.1 7) (Y := m.1 8) Cc.1 Cc.2.2.2.2.1 Cc.2.2.2.2.2.1.2 s1 s2 hX Cc.2.2.2.2.2.2.2.2.2.2.1 Cc.2.2.2.2.2.2.2.2.2.2.2
  obtain ⟨m1, b1, b2, b3⟩ := fc_m (X := m.1 7) (Y := m.1 8) C.1 C.2.2.2.1 C.2.2.2.2.1.2 s1 s3 (fun k hk => ⟨rfl, rfl⟩) C.2.2.2.2.2.2.2.1 C.2.2.2.2.2.2.2.2
  have R1 : Rel c1 m1 := (R.cf (a1.mono (fun k hk => by simp at hk ⊢; omega))).mf (Mk.r2 b1)
  have L1 : Ld c1 14 w h := L.1.congr (fun k a b => (a1 k (by simp; omega)).1)
  have M1 : Md m1 w h := (Mk.r2 b1).md L.2.1
  have it := fun q (hq : q < w * h) => lay_it (v1 := v1) (v2 := v2) L1 (fun q hq => by rw [(a1 (14 + 5) (by simp)).1]; exact Cc.2.2.1 q hq) (by rw [(a1 22 (by simp)).1]; exact Cc.2.2.2.2.2.2.1) Cc.2.2.2.2.2.2.2.1 a2 M1 (fun q hq => by rw [b1 5 (by decide) (by decide)]; exact C.2.2.1 q hq) (by rw [b1 1 (by decide) (by decide)]; exact C.2.2.2.2.2.1) b2 hq
  rw [a3, gb_v, b3, gb_v]
  unfold f_X6_countFitting f_X6_fittingCell
  by_cases e : v2 = -1
  · obtain ⟨x, v4', d1, d2⟩ := lay_cnt (kc := fun v2_3 v3_4 s5 => (some (some (.int v2_3), s5))) (km := fun v3_12 v4_13 v5_14 s15 => (if v2 = (-1 : Int32) then (some (some (.int v3_12), s15)) else (some (some (.int v4_13), s15)))) L1 M1 it (w * h) g_N g_N 0 0 (-1) (by omega) (by omega) (by unfold g_N; omega) (by unfold g_N; omega)
    rw [← c32_0] at d1 d2
    rw [if_pos e, d1, d2, gb_i, if_pos e]
    exact Ag.mk' rfl rfl rfl R1
  · obtain ⟨o, x, d0, d1, d2⟩ := lay_cell (km := fun v3_12 v4_13 v5_14 s15 => (if v2 = (-1 : Int32) then (some (some (.int v3_12), s15)) else (some (some (.int v4_13), s15)))) L1 M1 it (w * h) g_N g_N 0 0 (by omega) (by omega) (by unfold g_N; omega) (by unfold g_N; omega) (by omega)
    rw [← c32_0] at d1 d2
    rw [if_neg e, d1, d2, gb_i, if_neg e, place_c L1 d0, gb_i]
    exact Ag.mk' rfl rfl rfl R1
theorem in_m1 {v1 : Int32} {s : gS} : f_X10_in v1.toInt64 (-1) 9999 s = some (some (.int (if -1 ≤ v1 ∧ v1 ≤ nI 9999 then 1 else 0)), s) := by
  have a1 : ((-1 : Int64) ≤ v1.toInt64) ↔ -1 ≤ v1 := by rw [show (-1 : Int64) = (-1 : Int32).toInt64 by decide]; exact i64le _ _
  have a2 : (v1.toInt64 ≤ (9999 : Int64)) ↔ v1 ≤ nI 9999 := by rw [show (9999 : Int64) = (nI 9999).toInt64 by decide]; exact i64le _ _
  rw [in_f]
  by_cases h : -1 ≤ v1 ∧ v1 ≤ nI 9999
  · rw [if_pos h, if_pos ⟨a1.mpr h.1, a2.mpr h.2⟩]
  · rw [if_neg h, if_neg (fun z => h ⟨a1.mp z.1, a2.mp z.2⟩)]
theorem op_lay {c m : gS} (R : Rel c m) (v1 v2 : Int32) : Ag (f_X9_lay v1 v2 c) (f_X10_lay v1 v2 m) := by
  unfold f_X9_lay f_X10_lay
  rw [in_m1, gb_i]
  by_cases e : v1 = -1
  · rw [if_pos e, if_pos (show -1 ≤ v1 ∧ v1 ≤ nI 9999 by rw [e]; decide), i10]
    exact lay_t R v1 v2
  rw [if_neg e]
  rcases rng2 v1 0 9999 (by omega) (by omega) with ⟨k, h1, h2, rfl⟩ | ⟨h1, h2⟩
  · rw [isSum_c h2, gb_i, i10, if_pos (⟨Int32.le_of_lt (m1_lt (by omega)), nI_le h2 (by omega)⟩ : (-1 : Int32) ≤ nI k ∧ nI k ≤ nI 9999), i10]
    exact lay_t R (nI k) v2
  · have hz : ¬ (-1 ≤ v1 ∧ v1 ≤ nI 9999) := by
      rintro ⟨z1, z2⟩
      refine h2 ⟨?_, z2⟩
      rw [Int32.le_iff_toInt_le] at z1 ⊢
      have n1 : v1.toInt ≠ -1 := fun z => e (Int32.toInt_inj.mp z)
      have e1 : (-1 : Int32).toInt = -1 := by decide
      have e2 : (nI 0).toInt = 0 := by decide
      omega
    rw [isSum_cn h1, gb_i, i00, if_neg hz, i00]
    exact Ag.mk' rfl rfl rfl R
