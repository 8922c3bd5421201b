/-! The odds: the class's run, the reference's findOdds -/
theorem zero_rows {k37 : Nat} {s0 : gS} {f : (Int32 → gS → gR) → Nat → Int32 → gS → gR} {k : Int32 → gS → gR}
    (hf : ∀ n i s, f k (n + 1) (nI i) s = (if (40 : Int32) ≤ nI i then (k (nI i) s) else (g_ix (nI i) 40 (g_let (g_sl s k37 (nI i).toNatClampNeg (0 : Int64)) (fun s1 => (f k n (nI i + 1) s1)))))) : ∀ (n i : Nat) (s : gS), i ≤ 40 → 40 - i < n → S2 [k37] s0 s → (∀ q, q < i → s.2 k37 q = lN 0) → ∃ s', S2 [k37] s0 s' ∧ Rl s' k37 (fun _ => 0) ∧ f k n (nI i) s = k (nI 40) s' := by
  intro n
  induction n with
  | zero => intro i s _ h2; omega
  | succ n ih =>
    intro i s h1 h2 hS hz
    rw [hf]
    by_cases hi : 40 ≤ i
    · have e : i = 40 := by omega
      subst e
      rw [if_pos (by decide)]
      exact ⟨s, hS, hz, rfl⟩
    · rw [c32_40, if_neg (by rw [nI_leI (by omega) (by omega)]; omega), g_ixn (by omega) (by omega), nI_clamp (by omega)]
      simp only [g_let]
      rw [nI_1]
      refine ih (i + 1) _ (by omega) (by omega) (hS.tr (S2.sl (by simp))) (fun q hq => ?_)
      rw [sl2]
      by_cases e : q = i
      · rw [if_pos ⟨rfl, e⟩]; rfl
      · rw [if_neg (fun z => e z.2)]; exact hz q (by omega)
theorem copy_rows {k36 k37 : Nat} (hne : k37 ≠ k36) {s0 : gS} {P : Nat → Nat} {f : (Int32 → gS → gR) → Nat → Int32 → gS → gR} {k : Int32 → gS → gR} (h0 : Rl s0 k37 P)
    (hf : ∀ n i s, f k (n + 1) (nI i) s = (if (40 : Int32) ≤ nI i then (k (nI i) s) else (g_ix (nI i) 40 (g_ix (nI i) 40 (g_let (g_sl s k36 (nI i).toNatClampNeg (s.2 k37 (nI i).toNatClampNeg)) (fun s1 => (f k n (nI i + 1) s1))))))) : ∀ (n i : Nat) (s : gS), i ≤ 40 → 40 - i < n → S2 [k36] s0 s → (∀ q, q < i → s.2 k36 q = lN (P q)) → ∃ s', S2 [k36] s0 s' ∧ Rl s' k36 P ∧ f k n (nI i) s = k (nI 40) s' := by
  intro n
  induction n with
  | zero => intro i s _ h2; omega
  | succ n ih =>
    intro i s h1 h2 hS hz
    rw [hf]
    by_cases hi : 40 ≤ i
    · have e : i = 40 := by omega
      subst e
      rw [if_pos (by decide)]
      exact ⟨s, hS, hz, rfl⟩
    · rw [c32_40, if_neg (by rw [nI_leI (by omega) (by omega)]; omega), g_ixn (by omega) (by omega), g_ixn (by omega) (by omega), nI_clamp (by omega)]
      simp only [g_let]
      rw [nI_1]
      refine ih (i + 1) _ (by omega) (by omega) (hS.tr (S2.sl (by simp))) (fun q hq => ?_)
      rw [sl2]
      by_cases e : q = i
      · subst e
        rw [if_pos ⟨rfl, rfl⟩, hS.2 k37 (by simpa using hne)]
        exact h0 q (by omega)
      · rw [if_neg (fun z => e z.2)]; exact hz q (by omega)
section RUNC
variable {w h : Nat} {F : Nat → Nat}
theorem hour_23 {s0 : gS} {P : Nat → Nat} (L : Ld s0 14 w h) (V : Vv s0 w h F) (hF : ∀ t, t < w * h → 1 ≤ F t ∧ F t ≤ 201) (hP : Rl s0 36 P) (hP2 : ∀ q, P q ≤ 1000000000) {k : Int32 → gS → gR} : ∀ (n i : Nat) (s : gS), i ≤ w * h → w * h - i < n → S2 [37] s0 s → Rl s 37 (stpN w h F P i) → ∃ s', S2 [37] s0 s' ∧ Rl s' 37 (stpN w h F P (w * h)) ∧ f_X1_passHour_23 k n (nI i) s = k (nI (w * h)) s' := by
  intro n
  induction n with
  | zero => intro i s _ h2; omega
  | succ n ih =>
    intro i s h1 h2 hS hR
    have hn := L.1.n
    have L' := L.s1 hS.1
    have V' := V.s1 hS.1
    rw [f_X1_passHour_23.eq_2, L'.2.2.2.1]
    by_cases hi : w * h ≤ i
    · have e : i = w * h := by omega
      subst e
      rw [if_pos ((nI_leI (by omega) (by omega)).mpr (Nat.le_refl _))]
      exact ⟨s, hS, hR, rfl⟩
    · have hi2 : i < w * h := by omega
      have e36 : s.2 36 i = lN (P i) := by rw [hS.2 36 (by simp)]; exact hP i (by omega)
      rw [if_neg (by rw [nI_leI (by omega) (by omega)]; omega), g_ixn (by omega) (by omega), nI_clamp (by omega), e36]
      have hb := hP2 i
      simp only [lg_cmp_le, c64_0, pk_lLE (show P i < 2 ^ 63 by omega) (show 0 < 2 ^ 63 by omega)]
      by_cases hz : P i ≤ 0
      · have hz0 : P i = 0 := by omega
        rw [if_pos hz, nI_1]
        refine ih (i + 1) s (by omega) (by omega) hS ?_
        show Rl s 37 (dst F (sumL F (wayL w h i)) (P i) (wayL w h i) (P i) (stpN w h F P i))
        rw [hz0, dst_zero]
        exact hR
      · rw [if_neg hz]
        obtain ⟨s1, a1, a2, a3⟩ := part_c L' V' hF hi2 e36 hb hR
        rw [a3, gb_v, nI_1]
        exact ih (i + 1) s1 (by omega) (by omega) (hS.tr a1) a2
theorem hour_c {s : gS} {P : Nat → Nat} (L : Ld s 14 w h) (V : Vv s w h F) (hF : ∀ t, t < w * h → 1 ≤ F t ∧ F t ≤ 201) (hP : Rl s 36 P) (hP2 : ∀ q, P q ≤ 1000000000) : ∃ s', S2 [36, 37] s s' ∧ Rl s' 36 (stpN w h F P (w * h)) ∧ f_X1_passHour s = some (none, s') := by
  have hn := L.1.n
  unfold f_X1_passHour
  obtain ⟨s1, a1, a2, a3⟩ := zero_rows (f := f_X1_passHour_2) (k := fun v1_2 s3 => (f_X1_passHour_23 (fun v1_5 s6 => (f_X1_passHour_58 (fun v1_8 s9 => (some (none, s9))) g_N (0 : Int32) s6)) g_N (0 : Int32) s3)) (fun n i s => by rw [f_X1_passHour_2.eq_2]) g_N 0 s (by omega) (by unfold g_N; omega) S2.rf (fun q hq => by omega)
  have hP1 : Rl s1 36 P := fun q hq => by rw [a1.2 36 (by simp)]; exact hP q hq
  obtain ⟨s2, b1, b2, b3⟩ := hour_23 (k := fun v1_5 s6 => (f_X1_passHour_58 (fun v1_8 s9 => (some (none, s9))) g_N (0 : Int32) s6)) (L.s1 a1.1) (V.s1 a1.1) hF hP1 hP2 g_N 0 s1 (Nat.zero_le _) (by unfold g_N; omega) S2.rf a2
  obtain ⟨s3, c1, c2, c3⟩ := copy_rows (f := f_X1_passHour_58) (k := fun v1_8 s9 => (some (none, s9))) (show (37 : Nat) ≠ 36 by decide) b2 (fun n i s => by rw [f_X1_passHour_58.eq_2]) g_N 0 s2 (by omega) (by unfold g_N; omega) S2.rf (fun q hq => by omega)
  refine ⟨s3, (a1.mono (by simp)).tr ((b1.mono (by simp)).tr (c1.mono (by simp))), c2, ?_⟩
  exact a3.trans (b3.trans c3)
theorem wake_c {s : gS} {wk : Option Nat} (L : Ld s 14 w h) (hwk : s.1 22 3 = oI wk) (hwn : ∀ q, wk = some q → q < w * h) : ∃ s', S2 [36, 37] s s' ∧ Rl s' 36 (odN w h F wk 0) ∧ f_X1_wake s = some (none, s') := by
  have hn := L.1.n
  unfold f_X1_wake
  obtain ⟨s1, a1, a2, a3⟩ := zero_rows (f := f_X1_wake_2) (k := fun v1_2 s3 => (g_bind (f_X3_has 14 (s3.1 22 3) s3) (g_ki (fun r5 s4 => (if r5 = 0 then (some (none, s4)) else (g_ix (s4.1 22 3) 40 (g_let (g_sl s4 36 (s4.1 22 3).toNatClampNeg (1000000000 : Int64)) (fun s6 => (some (none, s6)))))))))) (fun n i s => by rw [f_X1_wake_2.eq_2]) g_N 0 s (by omega) (by unfold g_N; omega) S2.rf (fun q hq => by omega)
  have e1 : s1.1 22 3 = oI wk := by rw [a1.1]; exact hwk
  cases wk with
  | none =>
    refine ⟨s1, a1.mono (by simp), fun q hq => ?_, a3.trans ?_⟩
    · rw [a2 q hq]; rfl
    · rw [e1, show oI none = -1 from rfl, has_no, gb_i, if_pos rfl]
  | some c =>
    have hc := hwn c rfl
    refine ⟨g_sl s1 36 c (lN 1000000000), (a1.mono (by simp)).tr (S2.sl (by simp)), fun q hq => ?_, a3.trans ?_⟩
    · have h1 := (a2.up (j := c) (v := 1000000000)) q hq
      rw [h1]
      unfold updN odN
      by_cases e : q = c
      · subst e; rw [if_pos rfl, if_pos rfl]
      · rw [if_neg e, if_neg (fun z => e (Option.some.inj z).symm)]
    · rw [e1, show oI (some c) = nI c from rfl, has_in (L.s1 a1.1) hc, gb_i, if_neg (by decide), e1, show oI (some c) = nI c from rfl, g_ixn (by omega) (by omega), nI_clamp (by omega)]; rfl
theorem run_6 {s0 : gS} {wk : Option Nat} {H : Nat} (hH : H < 2 ^ 31) (L : Ld s0 14 w h) (V : Vv s0 w h F) (hF : ∀ t, t < w * h → 1 ≤ F t ∧ F t ≤ 201) (hwn : ∀ q, wk = some q → q < w * h) {k : Int32 → gS → gR} : ∀ (n i : Nat) (s : gS), i ≤ H → H - i < n → S2 [36, 37] s0 s → Rl s 36 (odN w h F wk i) → ∃ s', S2 [36, 37] s0 s' ∧ Rl s' 36 (odN w h F wk H) ∧ f_X1_run_6 (nI H) k n (nI i) s = k (nI H) s' := by
  intro n
  induction n with
  | zero => intro i s _ h2; omega
  | succ n ih =>
    intro i s h1 h2 hS hR
    rw [f_X1_run_6.eq_2]
    by_cases hi : H ≤ i
    · have e : i = H := by omega
      subst e
      rw [if_pos ((nI_leI (by omega) (by omega)).mpr (Nat.le_refl _))]
      exact ⟨s, hS, hR, rfl⟩
    · rw [if_neg (by rw [nI_leI (by omega) (by omega)]; omega)]
      obtain ⟨s1, a1, a2, a3⟩ := hour_c (L.s1 hS.1) (V.s1 hS.1) hF hR (od_le L.1 hF hwn i)
      rw [a3, gb_v, nI_1]
      exact ih (i + 1) s1 (by omega) (by omega) (hS.tr a1) a2
theorem run_c {s : gS} {wk : Option Nat} {H : Nat} (hH : H ≤ 12) (L : Ld s 14 w h) (V : Vv s w h F) (hF : ∀ t, t < w * h → 1 ≤ F t ∧ F t ≤ 201) (hwk : s.1 22 3 = oI wk) (hwn : ∀ q, wk = some q → q < w * h) : ∃ s', S2 [36, 37] s s' ∧ Rl s' 36 (odN w h F wk H) ∧ f_X1_run (nI H) s = some (none, s') := by
  unfold f_X1_run
  obtain ⟨s1, a1, a2, a3⟩ := wake_c (F := F) L hwk hwn
  obtain ⟨s2, b1, b2, b3⟩ := run_6 (k := fun v2_3 s4 => (some (none, s4))) (show H < 2 ^ 31 by omega) (L.s1 a1.1) (V.s1 a1.1) hF hwn g_N 0 s1 (Nat.zero_le _) (by unfold g_N; omega) S2.rf a2
  refine ⟨s2, a1.tr b1, b2, ?_⟩
  rw [a3, gb_v]
  exact b3
end RUNC
/-! the reference's -/
def wayFr (w h q : Nat) : Nat → List Nat
  | 0 => []
  | r + 1 => match wayS w h q (4 - r) with
    | none => wayFr w h q r
    | some t => t :: wayFr w h q r
theorem wayFr_5 (w h q : Nat) : wayFr w h q 5 = wayL w h q := by
  simp only [wayFr, wayL, List.filterMap, wayS]
  by_cases h1 : 0 < q / w <;> by_cases h2 : q % w + 1 < w <;> by_cases h3 : q / w + 1 < h <;> by_cases h4 : 0 < q % w <;> simp [h1, h2, h3, h4]
def laS (w h q : Nat) : Nat → Nat
  | 0 => 0
  | i + 1 => match wayS w h q i with
    | none => laS w h q i
    | some _ => i
theorem la_k : chk3 (fun w h q => !(decide (w * h ≤ 40 ∧ q < w * h)) || (List.range 5).all (fun i => (wayS w h q i).isNone || (decide (i = laS w h q 5) == (wayFr w h q (4 - i)).isEmpty))) = true := by decide +kernel
theorem la_is {w h q i t : Nat} (d : Dm w h) (hq : q < w * h) (hi : i < 5) (ht : wayS w h q i = some t) : i = laS w h q 5 ↔ wayFr w h q (4 - i) = [] := by
  have h1 := chk3_of la_k (show w < 10 by have := d.w; omega) (show h < 10 by have := d.h; omega) (show q < 41 by have := (d.q hq).1; omega)
  rw [show decide (w * h ≤ 40 ∧ q < w * h) = true from decide_eq_true ⟨d.n, hq⟩] at h1
  simp only [Bool.not_true, Bool.false_or, List.all_eq_true, List.mem_range] at h1
  have h2 := h1 i hi
  rw [ht] at h2
  simp only [Option.isNone_some, Bool.false_or, beq_iff_eq] at h2
  rw [← List.isEmpty_iff, ← h2, decide_eq_true_iff]
theorem la_lt (w h q : Nat) : ∀ i, i ≤ 5 → laS w h q i ≤ 5
  | 0, _ => by simp [laS]
  | i + 1, hi => by
    unfold laS
    split
    · exact la_lt w h q i (by omega)
    · omega
section RUNM
variable {w h : Nat} {l th gr : Nat → Nat} {lick : Option Nat}
theorem part_11 {m : gS} {q : Nat} {v2 : Int32} (M : Md m w h) (hq : q < w * h) {k : Int32 → Int32 → gS → gR} : ∀ (n i : Nat), i ≤ 5 → 5 - i < n → f_X10_part_11 (nI q) v2 k n (nI (laS w h q i)) (nI i) m = k (nI (laS w h q 5)) (nI 5) m := by
  intro n
  induction n with
  | zero => intro i _ h2; omega
  | succ n ih =>
    intro i h1 h2
    have hn := M.1.n
    rw [f_X10_part_11.eq_2, c32_5]
    by_cases hi : 5 ≤ i
    · have e : i = 5 := by omega
      subst e
      rw [if_pos ((nI_leI (by omega) (by omega)).mpr (Nat.le_refl _))]
    · rw [if_neg (by rw [nI_leI (by omega) (by omega)]; omega), way_m M hq (by omega), gb_i]
      have hih := ih (i + 1) (by omega) (by omega)
      have hs : laS w h q (i + 1) = (match wayS w h q i with | none => laS w h q i | some _ => i) := rfl
      cases e : wayS w h q i with
      | none =>
        rw [e] at hs
        simp only at hs
        rw [if_pos (show oI none = -1 from rfl), nI_1, ← hs, hih]
      | some t =>
        rw [e] at hs
        simp only at hs
        have ht := wayS_lt M.1 hq e (by omega)
        rw [if_neg (show ¬ oI (some t) = -1 from nI_m1 (by omega)), nI_1]
        rw [hs] at hih
        exact hih
theorem part_52 {m0 : gS} {q p : Nat} {T : Nat → Nat} (M : Md m0 w h) (K : LkM m0 (w * h) l th gr lick) (hq : q < w * h) (hp : m0.2 18 q = lN p) (hp2 : p ≤ 1000000000) {k : Int64 → Int32 → gS → gR} : ∀ (n i z : Nat) (A : Nat → Nat) (m : gS), i ≤ 5 → 5 - i < n → S2 [19] m0 m → Rl m 19 A → dst (lkF l th gr lick) (sumL (lkF l th gr lick) (wayL w h q)) p (wayFr w h q (5 - i)) z A = T → p * sumL (lkF l th gr lick) (wayFr w h q (5 - i)) ≤ z * sumL (lkF l th gr lick) (wayL w h q) →
    ∃ (z' : Nat) (m' : gS), S2 [19] m0 m' ∧ Rl m' 19 T ∧ f_X10_part_52 (nI q) (nI (sumL (lkF l th gr lick) (wayL w h q))) (nI (laS w h q 5)) k n (lN z) (nI i) m = k (lN z') (nI 5) m' := by
  have hF : ∀ t, t < w * h → 1 ≤ lkF l th gr lick t ∧ lkF l th gr lick t ≤ 201 := fun t ht => lkF_le (fun j hj => (K.1 j hj).2) (K.2.2.1 t ht).2
  intro n
  induction n with
  | zero => intro i z A m _ h2; omega
  | succ n ih =>
    intro i z A m h1 h2 hS hR hT hz
    have hn := M.1.n
    obtain ⟨p1, p2⟩ := all_pos M.1 hq hF
    have M' := M.s1 hS.1
    have K' := K.s1 hS.1
    rw [f_X10_part_52.eq_2, c32_5]
    by_cases hi : 5 ≤ i
    · have e : i = 5 := by omega
      subst e
      rw [if_pos ((nI_leI (by omega) (by omega)).mpr (Nat.le_refl _))]
      exact ⟨z, m, hS, by rw [← hT]; exact hR, rfl⟩
    · rw [if_neg (by rw [nI_leI (by omega) (by omega)]; omega), way_m M' hq (by omega), gb_i]
      have h5 : 5 - i = (4 - i) + 1 := by omega
      have h6 : 5 - (i + 1) = 4 - i := by omega
      have hw : wayFr w h q (5 - i) = (match wayS w h q i with | none => wayFr w h q (4 - i) | some t => t :: wayFr w h q (4 - i)) := by
        rw [h5]
        show (match wayS w h q (4 - (4 - i)) with | none => wayFr w h q (4 - i) | some t => t :: wayFr w h q (4 - i)) = _
        rw [show 4 - (4 - i) = i by omega]
      cases e : wayS w h q i with
      | none =>
        rw [e] at hw
        simp only at hw
        rw [if_pos (show oI none = -1 from rfl), nI_1]
        exact ih (i + 1) z A m (by omega) (by omega) hS hR (by rw [h6, ← hw]; exact hT) (by rw [h6, ← hw]; exact hz)
      | some t =>
        rw [e] at hw
        simp only at hw
        have ht := wayS_lt M.1 hq e (by omega)
        have hla := la_is M.1 hq (by omega) e
        have hl5 := la_lt w h q 5 (by omega)
        rw [if_neg (show ¬ oI (some t) = -1 from nI_m1 (by omega)), show oI (some t) = nI t from rfl]
        rw [hw] at hT hz
        by_cases hlast : i = laS w h q 5
        · rw [if_pos (by rw [hlast]), g_ixn (by omega) (by omega), g_ixn (by omega) (by omega), nI_clamp (by omega), hR t (by omega), lN_add]
          simp only [g_let, g_letl]
          rw [lN_sub (Nat.le_refl z), Nat.sub_self, nI_1]
          have hnil := hla.mp hlast
          rw [hnil] at hT hz
          refine ih (i + 1) 0 _ _ (by omega) (by omega) (hS.tr (S2.sl (by simp))) hR.up (by rw [h6, hnil]; exact hT) (by rw [h6, hnil]; simp [sumL])
        · rw [if_neg (by rw [nI_eq (by omega) (by omega)]; exact hlast), g_ixn (by omega) (by omega), nI_clamp (by omega), liking_m K' hn ht, gb_i, if_neg (toL_ne0 p1 (by omega)), hS.2 18 (by simp), hp, lN_div hp2 (hF t ht).2 p1 p2]
          obtain ⟨z1, z2⟩ := dst_ok p1 hz
          simp only [g_let, g_letl]
          rw [g_ixn (by omega) (by omega), g_ixn (by omega) (by omega), nI_clamp (by omega), hR t (by omega), lN_add, lN_sub z1, nI_1]
          have hne : wayFr w h q (4 - i) ≠ [] := fun q2 => hlast (hla.mpr q2)
          refine ih (i + 1) _ _ _ (by omega) (by omega) (hS.tr (S2.sl (by simp))) hR.up ?_ (by rw [h6]; exact z2)
          rw [h6, ← hT]
          cases e2 : wayFr w h q (4 - i) with
          | nil => exact absurd e2 hne
          | cons u r => rfl
theorem part_m {m : gS} {q p : Nat} {A : Nat → Nat} (M : Md m w h) (K : LkM m (w * h) l th gr lick) (hq : q < w * h) (hp : m.2 18 q = lN p) (hp2 : p ≤ 1000000000) (hR : Rl m 19 A) : ∃ m', S2 [19] m m' ∧ Rl m' 19 (dst (lkF l th gr lick) (sumL (lkF l th gr lick) (wayL w h q)) p (wayL w h q) p A) ∧ f_X10_part (nI q) m = some (none, m') := by
  have hn := M.1.n
  unfold f_X10_part
  rw [likings_m M K hq, gb_i]
  have h11 := part_11 (v2 := nI (sumL (lkF l th gr lick) (wayL w h q))) (k := fun v3_5 v4_6 s7 => (g_ix (nI q) 40 (g_letl (s7.2 18 (nI q).toNatClampNeg) (fun v4_8 => (f_X10_part_52 (nI q) (nI (sumL (lkF l th gr lick) (wayL w h q))) v3_5 (fun v4_18 v6_19 s20 => (some (none, s20))) g_N v4_8 (0 : Int32) s7))))) M hq g_N 0 (by omega) (by unfold g_N; omega)
  rw [show laS w h q 0 = 0 from rfl, ← c32_0] at h11
  obtain ⟨z', m', a1, a2, a3⟩ := part_52 (T := dst (lkF l th gr lick) (sumL (lkF l th gr lick) (wayL w h q)) p (wayL w h q) p A) (k := fun v4_18 v6_19 s20 => (some (none, s20))) M K hq hp hp2 g_N 0 p A m (by omega) (by unfold g_N; omega) S2.rf hR (by rw [show 5 - 0 = 5 from rfl, wayFr_5]) (by rw [show 5 - 0 = 5 from rfl, wayFr_5]; exact Nat.le_refl _)
  refine ⟨m', a1, a2, ?_⟩
  rw [h11, g_ixn (by omega) (by omega), nI_clamp (by omega), hp]
  simp only [g_letl]
  rw [← c32_0] at a3
  exact a3
theorem go_23 {m0 : gS} {P : Nat → Nat} (M : Md m0 w h) (K : LkM m0 (w * h) l th gr lick) (hP : Rl m0 18 P) (hP2 : ∀ q, P q ≤ 1000000000) {k : Int32 → gS → gR} : ∀ (n i : Nat) (m : gS), i ≤ w * h → w * h - i < n → S2 [19] m0 m → Rl m 19 (stpN w h (lkF l th gr lick) P i) → ∃ m', S2 [19] m0 m' ∧ Rl m' 19 (stpN w h (lkF l th gr lick) P (w * h)) ∧ f_X10_goOdds_23 k n (nI i) m = k (nI (w * h)) m' := by
  intro n
  induction n with
  | zero => intro i m _ h2; omega
  | succ n ih =>
    intro i m h1 h2 hS hR
    have hn := M.1.n
    have M' := M.s1 hS.1
    rw [f_X10_goOdds_23.eq_2, cells_m M', gb_i]
    by_cases hi : w * h ≤ i
    · have e : i = w * h := by omega
      subst e
      rw [if_pos ((nI_leI (by omega) (by omega)).mpr (Nat.le_refl _))]
      exact ⟨m, hS, hR, rfl⟩
    · have hi2 : i < w * h := by omega
      have e18 : m.2 18 i = lN (P i) := by rw [hS.2 18 (by simp)]; exact hP i (by omega)
      rw [if_neg (by rw [nI_leI (by omega) (by omega)]; omega)]
      obtain ⟨m1, a1, a2, a3⟩ := part_m M' (K.s1 hS.1) hi2 e18 (hP2 i) hR
      rw [a3, gb_v, nI_1]
      exact ih (i + 1) m1 (by omega) (by omega) (hS.tr a1) a2
theorem hour_m {m : gS} {P : Nat → Nat} (M : Md m w h) (K : LkM m (w * h) l th gr lick) (hP : Rl m 18 P) (hP2 : ∀ q, P q ≤ 1000000000) : ∃ m', S2 [18, 19] m m' ∧ Rl m' 18 (stpN w h (lkF l th gr lick) P (w * h)) ∧ f_X10_goOdds m = some (none, m') := by
  have hn := M.1.n
  unfold f_X10_goOdds
  obtain ⟨s1, a1, a2, a3⟩ := zero_rows (f := f_X10_goOdds_2) (k := fun v1_2 s3 => (f_X10_goOdds_23 (fun v1_7 s8 => (f_X10_goOdds_44 (fun v1_10 s11 => (some (none, s11))) g_N (0 : Int32) s8)) g_N (0 : Int32) s3)) (fun n i s => by rw [f_X10_goOdds_2.eq_2]) g_N 0 m (by omega) (by unfold g_N; omega) S2.rf (fun q hq => by omega)
  have hP1 : Rl s1 18 P := fun q hq => by rw [a1.2 18 (by simp)]; exact hP q hq
  obtain ⟨s2, b1, b2, b3⟩ := go_23 (k := fun v1_7 s8 => (f_X10_goOdds_44 (fun v1_10 s11 => (some (none, s11))) g_N (0 : Int32) s8)) (M.s1 a1.1) (K.s1 a1.1) hP1 hP2 g_N 0 s1 (Nat.zero_le _) (by unfold g_N; omega) S2.rf a2
  obtain ⟨s3, c1, c2, c3⟩ := copy_rows (f := f_X10_goOdds_44) (k := fun v1_10 s11 => (some (none, s11))) (show (19 : Nat) ≠ 18 by decide) b2 (fun n i s => by rw [f_X10_goOdds_44.eq_2]) g_N 0 s2 (by omega) (by unfold g_N; omega) S2.rf (fun q hq => by omega)
  refine ⟨s3, (a1.mono (by simp)).tr ((b1.mono (by simp)).tr (c1.mono (by simp))), c2, ?_⟩
  exact a3.trans (b3.trans c3)
theorem start_l {m0 : gS} {F : Nat → Nat} {wk : Option Nat} (hwk : m0.1 1 80 = oI wk) (hwn : ∀ q, wk = some q → q < 2 ^ 31) {k : Int32 → gS → gR} : ∀ (n i : Nat) (m : gS), i ≤ 40 → 40 - i < n → S2 [18] m0 m → (∀ q, q < i → m.2 18 q = lN (odN w h F wk 0 q)) → ∃ m', S2 [18] m0 m' ∧ Rl m' 18 (odN w h F wk 0) ∧ f_X10_startOdds_2 k n (nI i) m = k (nI 40) m' := by
  intro n
  induction n with
  | zero => intro i m _ h2; omega
  | succ n ih =>
    intro i m h1 h2 hS hz
    rw [f_X10_startOdds_2.eq_2]
    by_cases hi : 40 ≤ i
    · have e : i = 40 := by omega
      subst e
      rw [if_pos (by decide)]
      exact ⟨m, hS, hz, rfl⟩
    · have hcase : (nI i = oI wk) = (wk = some i) := by
        rw [← oI_eq (o := wk) (q := i) (by omega) hwn]
        exact propext ⟨fun e => e.symm, fun e => e.symm⟩
      rw [c32_40, if_neg (by rw [nI_leI (by omega) (by omega)]; omega), c32_80, g_ixn (by omega) (by omega), nI_clamp (by omega), nI_clamp (by omega), hS.1, hwk]
      simp only [hcase, g_let]
      have fin : ∀ v : Nat, v = odN w h F wk 0 i → ∀ q, q < i + 1 → (g_sl m 18 i (lN v)).2 18 q = lN (odN w h F wk 0 q) := fun v hv q hq => by
        rw [sl2]
        by_cases e : q = i
        · subst e; rw [if_pos ⟨rfl, rfl⟩, hv]
        · rw [if_neg (fun z => e z.2)]; exact hz q (by omega)
      by_cases hk : wk = some i
      · rw [if_pos hk, g_ixn (by omega) (by omega), nI_1]
        exact ih (i + 1) _ (by omega) (by omega) (hS.tr (S2.sl (by simp))) (fin 1000000000 (by unfold odN; rw [if_pos hk]))
      · rw [if_neg hk, g_ixn (by omega) (by omega), nI_1]
        exact ih (i + 1) _ (by omega) (by omega) (hS.tr (S2.sl (by simp))) (fin 0 (by unfold odN; rw [if_neg hk]))
theorem find_6 {m0 : gS} {wk : Option Nat} {H : Nat} (hH : H < 2 ^ 31) (M : Md m0 w h) (K : LkM m0 (w * h) l th gr lick) (hwn : ∀ q, wk = some q → q < w * h) {k : Int32 → gS → gR} : ∀ (n i : Nat) (m : gS), i ≤ H → H - i < n → S2 [18, 19] m0 m → Rl m 18 (odN w h (lkF l th gr lick) wk i) → ∃ m', S2 [18, 19] m0 m' ∧ Rl m' 18 (odN w h (lkF l th gr lick) wk H) ∧ f_X10_findOdds_6 (nI H) k n (nI i) m = k (nI H) m' := by
  have hF : ∀ t, t < w * h → 1 ≤ lkF l th gr lick t ∧ lkF l th gr lick t ≤ 201 := fun t ht => lkF_le (fun j hj => (K.1 j hj).2) (K.2.2.1 t ht).2
  intro n
  induction n with
  | zero => intro i m _ h2; omega
  | succ n ih =>
    intro i m h1 h2 hS hR
    rw [f_X10_findOdds_6.eq_2]
    by_cases hi : H ≤ i
    · have e : i = H := by omega
      subst e
      rw [if_pos ((nI_leI (by omega) (by omega)).mpr (Nat.le_refl _))]
      exact ⟨m, hS, hR, rfl⟩
    · rw [if_neg (by rw [nI_leI (by omega) (by omega)]; omega)]
      obtain ⟨s1, a1, a2, a3⟩ := hour_m (M.s1 hS.1) (K.s1 hS.1) hR (od_le M.1 hF hwn i)
      rw [a3, gb_v, nI_1]
      exact ih (i + 1) s1 (by omega) (by omega) (hS.tr a1) a2
theorem find_m {m : gS} {wk : Option Nat} {H : Nat} (hH : H ≤ 12) (M : Md m w h) (K : LkM m (w * h) l th gr lick) (hwk : m.1 1 80 = oI wk) (hwn : ∀ q, wk = some q → q < w * h) : ∃ m', S2 [18, 19] m m' ∧ Rl m' 18 (odN w h (lkF l th gr lick) wk H) ∧ f_X10_findOdds (nI H) m = some (none, m') := by
  have hn := M.1.n
  unfold f_X10_findOdds f_X10_startOdds
  obtain ⟨s1, a1, a2, a3⟩ := start_l (w := w) (h := h) (F := lkF l th gr lick) (k := fun v1_3 s4 => (some (none, s4))) hwk (fun q hq => by have := hwn q hq; omega) g_N 0 m (by omega) (by unfold g_N; omega) S2.rf (fun q hq => by omega)
  obtain ⟨s2, b1, b2, b3⟩ := find_6 (k := fun v2_3 s4 => (some (none, s4))) (show H < 2 ^ 31 by omega) (M.s1 a1.1) (K.s1 a1.1) hwn g_N 0 s1 (Nat.zero_le _) (by unfold g_N; omega) S2.rf a2
  refine ⟨s2, (a1.mono (by simp)).tr b1, b2, ?_⟩
  rw [show f_X10_startOdds_2 (fun v1_3 s4 => some (none, s4)) g_N 0 m = some (none, s1) from a3, gb_v]
  exact b3
end RUNM
