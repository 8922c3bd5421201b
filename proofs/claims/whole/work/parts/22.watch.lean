/-! The watch -/
def lklS (P : Nat → Nat) : Nat → Nat
  | 0 => 0
  | i + 1 => if i = 0 then 0 else if P (lklS P i) < P i then i else lklS P i
theorem lkl_lt (P : Nat → Nat) : ∀ i, 0 < i → lklS P i < i
  | 0, hi => absurd hi (by omega)
  | i + 1, _ => by
    unfold lklS
    by_cases e : i = 0
    · rw [if_pos e]; omega
    · rw [if_neg e]
      have := lkl_lt P i (by omega)
      split <;> omega
def watS (w h : Nat) (F : Nat → Nat) (wk : Option Nat) : Nat → Nat × Nat × Nat
  | 0 => (0, 0, 0)
  | i + 1 => if i = 0 ∨ (watS w h F wk i).2.2 ≤ odN w h F wk (i + 1) (lklS (odN w h F wk (i + 1)) (w * h)) then (i + 1, lklS (odN w h F wk (i + 1)) (w * h), odN w h F wk (i + 1) (lklS (odN w h F wk (i + 1)) (w * h))) else watS w h F wk i
theorem wat_b {w h : Nat} {F : Nat → Nat} {wk : Option Nat} (h0 : 0 < w * h) (hb : ∀ k q, odN w h F wk k q ≤ 1000000000) : ∀ i, (watS w h F wk i).1 ≤ i ∧ (watS w h F wk i).2.1 < w * h ∧ (watS w h F wk i).2.2 ≤ 1000000000
  | 0 => ⟨Nat.le_refl _, h0, by show 0 ≤ _; omega⟩
  | i + 1 => by
    obtain ⟨a1, a2, a3⟩ := wat_b h0 hb i
    unfold watS
    split
    · exact ⟨Nat.le_refl _, lkl_lt _ _ h0, hb _ _⟩
    · exact ⟨by omega, a2, a3⟩
def wAns (w : Nat) (v1 : Int32) (t : Nat × Nat × Nat) : Int32 := if v1 = 0 then nI t.1 else if v1 = 1 then nI (10 * (t.2.1 % w) + t.2.1 / w) else nI t.2.2
section WAT
variable {w h hr law : Nat} {l th ti gr : Nat → Nat} {lick wk : Option Nat}
theorem lkl_cl {s : gS} {P : Nat → Nat} (L : Ld s 14 w h) (hR : Rl s 36 P) (hP : ∀ q, P q ≤ 1000000000) (h0 : 0 < w * h) {k : Int32 → Int32 → gS → gR} : ∀ (n i : Nat), 0 < i → i ≤ w * h → w * h - i < n → f_X1_likeliest_4 k n (nI (lklS P i)) (nI i) s = k (nI (lklS P (w * h))) (nI (w * h)) s := by
  intro n
  induction n with
  | zero => intro i _ _ h2; omega
  | succ n ih =>
    intro i hi0 h1 h2
    have hn := L.1.n
    have hb := lkl_lt P i hi0
    rw [f_X1_likeliest_4.eq_2, L.2.2.2.1]
    by_cases hi : w * h ≤ i
    · have e : i = w * h := by omega
      subst e
      rw [if_pos ((nI_leI (by omega) (by omega)).mpr (Nat.le_refl _))]
    · have hih := ih (i + 1) (by omega) (by omega) (by omega)
      have p1 := hP i
      have p2 := hP (lklS P i)
      have es : lklS P (i + 1) = if P (lklS P i) < P i then i else lklS P i := by
        show (if i = 0 then 0 else if P (lklS P i) < P i then i else lklS P i) = _
        rw [if_neg (by omega)]
      rw [if_neg (by rw [nI_leI (by omega) (by omega)]; omega), g_ixn (by omega) (by omega), g_ixn (by omega) (by omega), nI_clamp (by omega), nI_clamp (by omega), hR i (by omega), hR (lklS P i) (by omega), nI_1]
      simp only [lg_cmp_le, pk_lLE (show P i < 2 ^ 63 by omega) (show P (lklS P i) < 2 ^ 63 by omega)]
      by_cases hv : P (lklS P i) < P i
      · rw [if_pos hv] at es
        rw [if_neg (by omega)]
        rw [es] at hih
        exact hih
      · rw [if_neg hv] at es
        rw [if_pos (by omega)]
        rw [es] at hih
        exact hih
theorem lkl_c {s : gS} {P : Nat → Nat} (L : Ld s 14 w h) (hR : Rl s 36 P) (hP : ∀ q, P q ≤ 1000000000) (h0 : 0 < w * h) : f_X1_likeliest s = some (some (.int (nI (lklS P (w * h)))), s) := by
  have hn := L.1.n
  unfold f_X1_likeliest
  exact lkl_cl (k := fun v1_1 v2_2 s3 => (some (some (.int v1_1), s3))) L hR hP h0 g_N 1 (by omega) (by omega) (by unfold g_N; omega)
theorem wat_14 {s0 : gS} {F : Nat → Nat} {v1 : Int32} (L : Ld s0 14 w h) (V : Vv s0 w h F) (hF : ∀ t, t < w * h → 1 ≤ F t ∧ F t ≤ 201) (hh : s0.1 14 4 = nI hr) (hr8 : hr ≤ 8) (hwn : ∀ q, wk = some q → q < w * h) (h0 : 0 < w * h) {k : Int32 → Int32 → Int64 → Int32 → gS → gR} : ∀ (n i : Nat) (s : gS) (c : Int32), i ≤ hr → hr - i < n → S2 [36, 37] s0 s → Rl s 36 (odN w h F wk i) → (0 < i → c = nI (watS w h F wk i).2.1) →
    ∃ (s' : gS) (c' : Int32), S2 [36, 37] s0 s' ∧ (0 < hr → c' = nI (watS w h F wk hr).2.1) ∧ f_X1_bestWatched_14 v1 k n (nI (watS w h F wk i).1) c (lN (watS w h F wk i).2.2) (nI (i + 1)) s = k (nI (watS w h F wk hr).1) c' (lN (watS w h F wk hr).2.2) (nI (hr + 1)) s' := by
  intro n
  induction n with
  | zero => intro i s c _ h2; omega
  | succ n ih =>
    intro i s c h1 h2 hS hR hc
    have hn := L.1.n
    have hb := fun kk q => od_le (F := F) (wk := wk) L.1 hF hwn kk q
    rw [f_X1_bestWatched_14.eq_2, hS.1, hh]
    by_cases hi : hr < i + 1
    · have e : i = hr := by omega
      subst e
      rw [if_pos ((nI_ltI (by omega) (by omega)).mpr hi)]
      exact ⟨s, c, hS, hc, rfl⟩
    · rw [if_neg (by rw [nI_ltI (by omega) (by omega)]; exact hi)]
      obtain ⟨s1, a1, a2, a3⟩ := hour_c (L.s1 hS.1) (V.s1 hS.1) hF hR (hb i)
      have hR1 : Rl s1 36 (odN w h F wk (i + 1)) := a2
      have L1 := L.s1 (a1.1.trans hS.1)
      have hlt := lkl_lt (odN w h F wk (i + 1)) (w * h) h0
      obtain ⟨w1, w2, w3⟩ := wat_b (F := F) (wk := wk) h0 hb i
      have hbc := hb (i + 1) (lklS (odN w h F wk (i + 1)) (w * h))
      rw [a3, gb_v, lkl_c L1 hR1 (hb (i + 1)) h0, gb_i, g_ixn (by omega) (by omega), nI_clamp (by omega), hR1 _ (by omega), nI_1]
      simp only [lg_cmp_ge, pk_lLE (show (watS w h F wk i).2.2 < 2 ^ 63 by omega) (show odN w h F wk (i + 1) (lklS (odN w h F wk (i + 1)) (w * h)) < 2 ^ 63 by omega), g_letl]
      have es : watS w h F wk (i + 1) = if i = 0 ∨ (watS w h F wk i).2.2 ≤ odN w h F wk (i + 1) (lklS (odN w h F wk (i + 1)) (w * h)) then (i + 1, lklS (odN w h F wk (i + 1)) (w * h), odN w h F wk (i + 1) (lklS (odN w h F wk (i + 1)) (w * h))) else watS w h F wk i := rfl
      by_cases hv : (watS w h F wk i).2.2 ≤ odN w h F wk (i + 1) (lklS (odN w h F wk (i + 1)) (w * h))
      · rw [if_pos (Or.inr hv)] at es
        rw [if_pos hv, g_ixn (by omega) (by omega)]
        have hx := ih (i + 1) s1 (nI (lklS (odN w h F wk (i + 1)) (w * h))) (by omega) (by omega) (hS.tr a1) hR1 (fun _ => by rw [es])
        rw [es] at hx
        exact hx
      · have hi0 : ¬ i = 0 := by
          intro e
          subst e
          exact hv (Nat.zero_le _)
        rw [if_neg (fun z => z.elim hi0 hv)] at es
        rw [if_neg hv]
        have hx := ih (i + 1) s1 c (by omega) (by omega) (hS.tr a1) hR1 (fun _ => by rw [es]; exact hc (by omega))
        rw [es] at hx
        exact hx
theorem wat_c {s : gS} {F : Nat → Nat} {v1 : Int32} (C : CX s w h hr law l th ti gr lick wk) (V : Vv s w h F) (hF : ∀ t, t < w * h → 1 ≤ F t ∧ F t ≤ 201) (h0 : 0 < w * h) : ∃ s', S2 [36, 37] s s' ∧ f_X1_bestWatched v1 s = some (some (.int (wAns w v1 (watS w h F wk hr))), s') := by
  have hn := C.1.1.n
  have hwn := C.2.2.2.2.2.2.2.2.2.2.2
  unfold f_X1_bestWatched
  obtain ⟨s1, a1, a2, a3⟩ := wake_c (F := F) C.1 C.2.2.2.2.2.2.2.2.2.2.1 hwn
  rw [a3, gb_v]
  have hb := fun kk q => od_le (F := F) (wk := wk) C.1.1 hF hwn kk q
  obtain ⟨w1, w2, w3⟩ := wat_b (F := F) (wk := wk) h0 hb hr
  obtain ⟨s2, c', b1, b2, b3⟩ := wat_14 (v1 := v1) (k := fun v2_6 v3_7 v4_8 v6_9 s10 => (if v1 = 0 then (some (some (.int v2_6), s10)) else (if v1 = (1 : Int32) then (g_bind (f_X3_placeOf 14 v3_7 s10) (g_ki (fun r12 s11 => (some (some (.int r12), s11))))) else (some (some (.int (v4_8.toInt32)), s10))))) (C.1.s1 a1.1) (V.s1 a1.1) hF (by rw [a1.1]; exact C.2.2.2.2.1) C.2.2.2.2.2.1.2 hwn h0 g_N 0 s1 (-1) (Nat.zero_le _) (by unfold g_N; have := C.2.2.2.2.2.1; omega) S2.rf a2 (fun e => absurd e (by omega))
  refine ⟨s2, a1.tr b1, ?_⟩
  rw [show watS w h F wk 0 = (0, 0, 0) from rfl, show nI (0, 0, 0).1 = 0 from rfl, show lN (0, 0, 0).2.2 = 0 from rfl, show nI (0 + 1) = 1 from rfl] at b3
  rw [b3, b2 (by have := C.2.2.2.2.2.1; omega)]
  unfold wAns
  by_cases e0 : v1 = 0
  · rw [if_pos e0, if_pos e0]
  · rw [if_neg e0, if_neg e0]
    by_cases e1 : v1 = 1
    · rw [if_pos e1, if_pos e1, placeOf_in (C.1.s1 (a1.tr b1).1) w2, gb_i]
    · rw [if_neg e1, if_neg e1, lN_i]
theorem wat_61 {m : gS} {P : Nat → Nat} {x1 x2 x3 x6 : Int32} {x4 : Int64} (M : Md m w h) (hR : Rl m 18 P) (hP : ∀ q, P q ≤ 1000000000) (h0 : 0 < w * h) {k : Int32 → Int32 → gS → gR} : ∀ (n i : Nat), 0 < i → i ≤ w * h → w * h - i < n → f_X10_watch_61 x1 x2 x3 x4 x6 k n (nI (lklS P i)) (nI i) m = k (nI (lklS P (w * h))) (nI (w * h)) m := by
  intro n
  induction n with
  | zero => intro i _ _ h2; omega
  | succ n ih =>
    intro i hi0 h1 h2
    have hn := M.1.n
    have hb := lkl_lt P i hi0
    rw [f_X10_watch_61.eq_2, cells_m M, gb_i]
    by_cases hi : w * h ≤ i
    · have e : i = w * h := by omega
      subst e
      rw [if_pos ((nI_leI (by omega) (by omega)).mpr (Nat.le_refl _))]
    · have hih := ih (i + 1) (by omega) (by omega) (by omega)
      have p1 := hP i
      have p2 := hP (lklS P i)
      have es : lklS P (i + 1) = if P (lklS P i) < P i then i else lklS P i := by
        show (if i = 0 then 0 else if P (lklS P i) < P i then i else lklS P i) = _
        rw [if_neg (by omega)]
      rw [if_neg (by rw [nI_leI (by omega) (by omega)]; omega), g_ixn (by omega) (by omega), g_ixn (by omega) (by omega), nI_clamp (by omega), nI_clamp (by omega), hR i (by omega), hR (lklS P i) (by omega), nI_1]
      simp only [lg_cmp_le, pk_lLE (show P i < 2 ^ 63 by omega) (show P (lklS P i) < 2 ^ 63 by omega)]
      by_cases hv : P (lklS P i) < P i
      · rw [if_pos hv] at es
        rw [if_neg (by omega)]
        rw [es] at hih
        exact hih
      · rw [if_neg hv] at es
        rw [if_pos (by omega)]
        rw [es] at hih
        exact hih
theorem wat_42 {m0 : gS} {v1 : Int32} (C : MX m0 w h hr law l th ti gr lick wk) (h0 : 0 < w * h) {k : Int32 → Int32 → Int64 → Int32 → gS → gR} : ∀ (n i : Nat) (m : gS) (c : Int32) (z : Int64), i ≤ hr → hr - i < n → S2 [18, 19] m0 m → Rl m 18 (odN w h (lkF l th gr lick) wk i) → (0 < i → c = nI (watS w h (lkF l th gr lick) wk i).2.1) → (0 < i → z = lN (watS w h (lkF l th gr lick) wk i).2.2) → (i = 0 → z = -1) →
    ∃ (m' : gS) (c' : Int32) (z' : Int64), S2 [18, 19] m0 m' ∧ (0 < hr → c' = nI (watS w h (lkF l th gr lick) wk hr).2.1) ∧ (0 < hr → z' = lN (watS w h (lkF l th gr lick) wk hr).2.2) ∧ f_X10_watch_42 v1 k n (nI (watS w h (lkF l th gr lick) wk i).1) c z (nI (i + 1)) m = k (nI (watS w h (lkF l th gr lick) wk hr).1) c' z' (nI (hr + 1)) m' := by
  have hF := C.F lick
  have hwn := C.2.2.2.2.2.2.2.2
  intro n
  induction n with
  | zero => intro i m c z _ h2; omega
  | succ n ih =>
    intro i m c z h1 h2 hS hR hc hz hz0
    have hn := C.1.1.n
    have hr8 := C.2.2.2.2.1
    have hb := fun kk q => od_le (F := lkF l th gr lick) (wk := wk) C.1.1 hF hwn kk q
    rw [f_X10_watch_42.eq_2, hS.1, C.2.2.2.1]
    by_cases hi : hr < i + 1
    · have e : i = hr := by omega
      subst e
      rw [if_pos ((nI_ltI (by omega) (by omega)).mpr hi)]
      exact ⟨m, c, z, hS, hc, hz, rfl⟩
    · rw [if_neg (by rw [nI_ltI (by omega) (by omega)]; exact hi)]
      obtain ⟨m1, a1, a2, a3⟩ := hour_m (C.1.s1 hS.1) (C.2.1.s1 hS.1) hR (hb i)
      have hR1 : Rl m1 18 (odN w h (lkF l th gr lick) wk (i + 1)) := a2
      have M1 := C.1.s1 (a1.1.trans hS.1)
      have hlt := lkl_lt (odN w h (lkF l th gr lick) wk (i + 1)) (w * h) h0
      obtain ⟨w1, w2, w3⟩ := wat_b (F := lkF l th gr lick) (wk := wk) h0 hb i
      have hbc := hb (i + 1) (lklS (odN w h (lkF l th gr lick) wk (i + 1)) (w * h))
      rw [a3, gb_v]
      have h61 := wat_61 (x1 := v1) (x2 := nI (watS w h (lkF l th gr lick) wk i).1) (x3 := c) (x4 := z) (x6 := nI (i + 1)) (k := fun v7_9 v8_10 s11 => (g_ix v7_9 40 (if (lg_cmp (s11.2 18 v7_9.toNatClampNeg) z) < 0 then (f_X10_watch_42 v1 k n (nI (watS w h (lkF l th gr lick) wk i).1) c z (nI (i + 1) + 1) s11) else (g_ix v7_9 40 (g_letl (s11.2 18 v7_9.toNatClampNeg) (fun v4_12 => (f_X10_watch_42 v1 k n (nI (i + 1)) v7_9 v4_12 (nI (i + 1) + 1) s11))))))) M1 hR1 (hb (i + 1)) h0 g_N 1 (by omega) (by omega) (by unfold g_N; omega)
      rw [show lklS (odN w h (lkF l th gr lick) wk (i + 1)) 1 = 0 from rfl, ← c32_0, ← c32_1] at h61
      rw [h61, g_ixn (by omega) (by omega), nI_clamp (by omega), hR1 _ (by omega), nI_1]
      simp only [lg_cmp_lt, g_letl]
      have es : watS w h (lkF l th gr lick) wk (i + 1) = if i = 0 ∨ (watS w h (lkF l th gr lick) wk i).2.2 ≤ odN w h (lkF l th gr lick) wk (i + 1) (lklS (odN w h (lkF l th gr lick) wk (i + 1)) (w * h)) then (i + 1, lklS (odN w h (lkF l th gr lick) wk (i + 1)) (w * h), odN w h (lkF l th gr lick) wk (i + 1) (lklS (odN w h (lkF l th gr lick) wk (i + 1)) (w * h))) else watS w h (lkF l th gr lick) wk i := rfl
      have put : ∀ e2 : watS w h (lkF l th gr lick) wk (i + 1) = (i + 1, lklS (odN w h (lkF l th gr lick) wk (i + 1)) (w * h), odN w h (lkF l th gr lick) wk (i + 1) (lklS (odN w h (lkF l th gr lick) wk (i + 1)) (w * h))), ∃ (m' : gS) (c' : Int32) (z' : Int64), S2 [18, 19] m0 m' ∧ (0 < hr → c' = nI (watS w h (lkF l th gr lick) wk hr).2.1) ∧ (0 < hr → z' = lN (watS w h (lkF l th gr lick) wk hr).2.2) ∧ f_X10_watch_42 v1 k n (nI (i + 1)) (nI (lklS (odN w h (lkF l th gr lick) wk (i + 1)) (w * h))) (lN (odN w h (lkF l th gr lick) wk (i + 1) (lklS (odN w h (lkF l th gr lick) wk (i + 1)) (w * h)))) (nI (i + 1 + 1)) m1 = k (nI (watS w h (lkF l th gr lick) wk hr).1) c' z' (nI (hr + 1)) m' := fun e2 => by
        have hx := ih (i + 1) m1 (nI (lklS (odN w h (lkF l th gr lick) wk (i + 1)) (w * h))) (lN (odN w h (lkF l th gr lick) wk (i + 1) (lklS (odN w h (lkF l th gr lick) wk (i + 1)) (w * h)))) (by omega) (by omega) (hS.tr a1) hR1 (fun _ => by rw [e2]) (fun _ => by rw [e2]) (fun e => by omega)
        rw [e2] at hx
        exact hx
      by_cases hi0 : i = 0
      · rw [if_pos (Or.inl hi0)] at es
        have hnn : ¬ lN (odN w h (lkF l th gr lick) wk (i + 1) (lklS (odN w h (lkF l th gr lick) wk (i + 1)) (w * h))) < z := by
          rw [hz0 hi0, Int64.lt_iff_toInt_lt, pk_lT (by omega)]
          have e1 : (-1 : Int64).toInt = -1 := by decide
          omega
        rw [if_neg hnn, g_ixn (by omega) (by omega)]
        exact put es
      · have hzi := hz (by omega)
        have hlt2 : (lN (odN w h (lkF l th gr lick) wk (i + 1) (lklS (odN w h (lkF l th gr lick) wk (i + 1)) (w * h))) < z) = (odN w h (lkF l th gr lick) wk (i + 1) (lklS (odN w h (lkF l th gr lick) wk (i + 1)) (w * h)) < (watS w h (lkF l th gr lick) wk i).2.2) := by
          rw [hzi]; exact propext (pk_lLT (by omega) (by omega))
        simp only [hlt2]
        by_cases hv : (watS w h (lkF l th gr lick) wk i).2.2 ≤ odN w h (lkF l th gr lick) wk (i + 1) (lklS (odN w h (lkF l th gr lick) wk (i + 1)) (w * h))
        · rw [if_pos (Or.inr hv)] at es
          rw [if_neg (by omega), g_ixn (by omega) (by omega)]
          exact put es
        · rw [if_neg (fun q => q.elim hi0 hv)] at es
          rw [if_pos (by omega)]
          have hx := ih (i + 1) m1 c z (by omega) (by omega) (hS.tr a1) hR1 (fun _ => by rw [es]; exact hc (by omega)) (fun _ => by rw [es]; exact hz (by omega)) (fun e => by omega)
          rw [es] at hx
          exact hx
end WAT
