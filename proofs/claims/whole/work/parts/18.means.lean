/-! Means -/
theorem dst_congr {F G : Nat → Nat} {all p : Nat} : ∀ {l : List Nat} {z : Nat} {A : Nat → Nat}, (∀ t, t ∈ l → F t = G t) → dst F all p l z A = dst G all p l z A
  | [], _, _, _ => rfl
  | [t], _, _, _ => rfl
  | t :: u :: r, z, A, h => by
    show dst F all p (u :: r) (z - p * F t / all) (updN A t (A t + p * F t / all)) = dst G all p (u :: r) (z - p * G t / all) (updN A t (A t + p * G t / all))
    rw [h t List.mem_cons_self]
    exact dst_congr (fun q hq => h q (List.mem_cons_of_mem _ hq))
theorem stp_congr {w h : Nat} {F G P : Nat → Nat} (d : Dm w h) (hF : ∀ q, q < w * h → F q = G q) : ∀ c, c ≤ w * h → stpN w h F P c = stpN w h G P c
  | 0, _ => rfl
  | c + 1, hc => by
    have hl := (way_len d (show c < w * h by omega)).2.2
    have hFG : ∀ t, t ∈ wayL w h c → F t = G t := fun t ht => hF t (hl t ht)
    show dst F (sumL F (wayL w h c)) (P c) (wayL w h c) (P c) (stpN w h F P c) = dst G (sumL G (wayL w h c)) (P c) (wayL w h c) (P c) (stpN w h G P c)
    rw [stp_congr d hF c (by omega), sumL_congr hFG, dst_congr hFG]
theorem od_congr {w h : Nat} {F G : Nat → Nat} {wk : Option Nat} (d : Dm w h) (hF : ∀ q, q < w * h → F q = G q) : ∀ k, odN w h F wk k = odN w h G wk k
  | 0 => rfl
  | k + 1 => by
    show stpN w h F (odN w h F wk k) (w * h) = stpN w h G (odN w h G wk k) (w * h)
    rw [od_congr d hF k, stp_congr d hF _ (Nat.le_refl _)]
def mnS (w h law : Nat) (ti P : Nat → Nat) (p : Nat) : Nat → Nat
  | 0 => 0
  | i + 1 => mnS w h law ti P p i + P i * tS ti law w p i (w * h)
def mnF (w h law : Nat) (ti F : Nat → Nat) (wk : Option Nat) (hr p : Nat) : Nat := mnS w h law ti (odN w h F wk hr) p (w * h) / 1000000000
theorem mnF_congr {w h law : Nat} {ti F G : Nat → Nat} {wk : Option Nat} {hr p : Nat} (d : Dm w h) (hF : ∀ q, q < w * h → F q = G q) : mnF w h law ti F wk hr p = mnF w h law ti G wk hr p := by
  unfold mnF
  rw [od_congr d hF]
theorem mnS_le {w h law p : Nat} {ti P : Nat → Nat} (d : Dm w h) (ht : ∀ q, q < w * h → ti q ≤ 99) : ∀ i, i ≤ w * h → mnS w h law ti P p i ≤ 3960 * sumT P i
  | 0, _ => Nat.zero_le _
  | i + 1, hi => by
    have h1 := mnS_le (law := law) (p := p) (P := P) d ht i (by omega)
    have h2 := tS_le (law := law) (w := w) (p := p) (b := i) ht (w * h) (Nat.le_refl _)
    have h3 := d.n
    have h4 : P i * tS ti law w p i (w * h) ≤ P i * 3960 := Nat.mul_le_mul_left _ (by omega)
    show mnS w h law ti P p i + P i * tS ti law w p i (w * h) ≤ 3960 * (sumT P i + P i)
    rw [Nat.mul_add, Nat.mul_comm 3960 (P i)]
    omega
theorem sumT_mono {A : Nat → Nat} : ∀ {n i : Nat}, i ≤ n → sumT A i ≤ sumT A n
  | 0, i, h => by have : i = 0 := by omega
                  subst this; exact Nat.le_refl _
  | n + 1, i, h => by
    by_cases e : i = n + 1
    · subst e; exact Nat.le_refl _
    · have := sumT_mono (A := A) (show i ≤ n by omega)
      show sumT A i ≤ sumT A n + A n
      omega
theorem mnS_b {w h law p : Nat} {ti P : Nat → Nat} (d : Dm w h) (ht : ∀ q, q < w * h → ti q ≤ 99) (hP : sumT P (w * h) ≤ 1000000000) {i : Nat} (hi : i ≤ w * h) : mnS w h law ti P p i ≤ 3960000000000 := by
  have h1 := mnS_le (law := law) (p := p) (P := P) d ht i hi
  have h2 := sumT_mono (A := P) hi
  omega
theorem mnF_le {w h law hr p : Nat} {ti F : Nat → Nat} {wk : Option Nat} (d : Dm w h) (ht : ∀ q, q < w * h → ti q ≤ 99) (hF : ∀ t, t < w * h → 1 ≤ F t ∧ F t ≤ 201) (hwk : ∀ q, wk = some q → q < w * h) : mnF w h law ti F wk hr p ≤ 3960 := by
  have := mnS_b (law := law) (p := p) d ht (od_tot d hF hwk hr).1 (Nat.le_refl _)
  unfold mnF
  omega
/-- the class's whole picture, as far as odds and means go -/
def CX (s : gS) (w h hr law : Nat) (l th ti gr : Nat → Nat) (lick wk : Option Nat) : Prop := Ld s 14 w h ∧ LkC s 14 (w * h) l th ∧ (∀ q, q < w * h → s.1 19 q = nI (ti q) ∧ ti q ≤ 99) ∧ Pc2 s (w * h) gr ∧ s.1 14 4 = nI hr ∧ (1 ≤ hr ∧ hr ≤ 8) ∧ s.1 22 9 = nI law ∧ law < 3 ∧ s.1 22 5 = oI lick ∧ (∀ q, lick = some q → q < w * h) ∧ s.1 22 3 = oI wk ∧ ∀ q, wk = some q → q < w * h
def MX (m : gS) (w h hr law : Nat) (l th ti gr : Nat → Nat) (lick wk : Option Nat) : Prop := Md m w h ∧ LkM m (w * h) l th gr lick ∧ (∀ q, q < w * h → m.1 5 q = nI (ti q) ∧ ti q ≤ 99) ∧ m.1 0 7 = nI hr ∧ (1 ≤ hr ∧ hr ≤ 8) ∧ m.1 1 86 = nI law ∧ law < 3 ∧ m.1 1 80 = oI wk ∧ ∀ q, wk = some q → q < w * h
theorem CX.F {s : gS} {w h hr law : Nat} {l th ti gr : Nat → Nat} {lick wk : Option Nat} (C : CX s w h hr law l th ti gr lick wk) (lick' : Option Nat) : ∀ t, t < w * h → 1 ≤ lkF l th gr lick' t ∧ lkF l th gr lick' t ≤ 201 := fun t ht => lkF_le (fun j hj => (C.2.1.1 j hj).2) (C.2.2.2.1 t ht).2
theorem MX.F {s : gS} {w h hr law : Nat} {l th ti gr : Nat → Nat} {lick wk : Option Nat} (C : MX s w h hr law l th ti gr lick wk) (lick' : Option Nat) : ∀ t, t < w * h → 1 ≤ lkF l th gr lick' t ∧ lkF l th gr lick' t ≤ 201 := fun t ht => lkF_le (fun j hj => (C.2.1.1 j hj).2) (C.2.1.2.2.1 t ht).2
/-- the cells that a forecast and the trials write -/
abbrev KS : List Nat := [34, 35, 36, 37, 38, 39, 40]
theorem CX.sm {s s' : gS} {w h hr law : Nat} {l th ti gr : Nat → Nat} {lick wk : Option Nat} (C : CX s w h hr law l th ti gr lick wk) (S : Sm KS s s') : CX s' w h hr law l th ti gr lick wk := by
  obtain ⟨h1, h2, h3, h4, h5, h6, h7, h8, h9, h10, h11, h12⟩ := C
  have e : ∀ k, k ≤ 33 → s'.1 k = s.1 k := fun k hk => (S k (by simp; omega)).1
  refine ⟨h1.congr (fun k a b => e k (by omega)), h2.congr (fun k a b => e k (by omega)), ?_, ?_, ?_, h6, ?_, h8, ?_, h10, ?_, h12⟩
  · rw [e 19 (by omega)]; exact h3
  · unfold Pc2; rw [e 23 (by omega)]; exact h4
  · rw [e 14 (by omega)]; exact h5
  · rw [e 22 (by omega)]; exact h7
  · rw [e 22 (by omega)]; exact h9
  · rw [e 22 (by omega)]; exact h11
theorem MX.s1 {s s' : gS} {w h hr law : Nat} {l th ti gr : Nat → Nat} {lick wk : Option Nat} (C : MX s w h hr law l th ti gr lick wk) (e : s'.1 = s.1) : MX s' w h hr law l th ti gr lick wk := by
  unfold MX Md LkM at *; rw [e]; exact C
theorem Vv.sm {s s' : gS} {w h : Nat} {F : Nat → Nat} (V : Vv s w h F) (h1 : s'.1 34 = s.1 34) (h2 : s'.1 35 = s.1 35) : Vv s' w h F := by unfold Vv at *; rw [h1, h2]; exact V
section MEANC
variable {w h hr law : Nat} {l th ti gr : Nat → Nat} {lick wk : Option Nat}
def Tb (s : gS) (w h law : Nat) (ti : Nat → Nat) (i : Nat) : Prop := ∀ q, q < i → s.1 39 q = nI (tS ti law w 0 q (w * h)) ∧ s.1 40 q = nI (tS ti law w 1 q (w * h))
theorem reck_l {s0 : gS} (C : CX s0 w h hr law l th ti gr lick wk) {k : Int32 → gS → gR} : ∀ (n i : Nat) (s : gS), i ≤ w * h → w * h - i < n → Sm [39, 40] s0 s → Tb s w h law ti i → ∃ s', Sm [39, 40] s0 s' ∧ Tb s' w h law ti (w * h) ∧ f_X8_reckonBorders_2 k n (nI i) s = k (nI (w * h)) s' := by
  intro n
  induction n with
  | zero => intro i s _ h2; omega
  | succ n ih =>
    intro i s h1 h2 hS hT
    have hn := C.1.1.n
    have C' := C.sm (hS.mono (fun k hk => by simp at hk ⊢; omega))
    rw [f_X8_reckonBorders_2.eq_2, C'.1.2.2.2.1]
    by_cases hi : w * h ≤ i
    · have e : i = w * h := by omega
      subst e
      rw [if_pos ((nI_leI (by omega) (by omega)).mpr (Nat.le_refl _))]
      exact ⟨s, hS, hT, rfl⟩
    · rw [if_neg (by rw [nI_leI (by omega) (by omega)]; omega), C'.2.2.2.2.2.2.1, c32_0, tithes_c C'.1 C'.2.2.1 (by omega) C'.2.2.2.2.2.2.2.1 (by omega), gb_i, g_ixn (by omega) (by omega), nI_clamp (by omega)]
      simp only [g_let]
      have S1 : Sm [39, 40] s0 (g_si s 39 i (nI (tS ti law w 0 i (w * h)))) := hS.tr (Sm.si (by simp))
      have C1 := C.sm (S1.mono (fun k hk => by simp at hk ⊢; omega))
      rw [C1.2.2.2.2.2.2.1, c32_1, tithes_c C1.1 C1.2.2.1 (by omega) C1.2.2.2.2.2.2.2.1 (by omega), gb_i, g_ixn (by omega) (by omega), nI_add]
      refine ih (i + 1) _ (by omega) (by omega) (S1.tr (Sm.si (by simp))) (fun q hq => ?_)
      rw [sir (a := 39) (k := 40) (by decide), si1, si1, sir (a := 40) (by decide)]
      by_cases e : q = i
      · subst e; rw [if_pos ⟨rfl, rfl⟩, if_pos ⟨rfl, rfl⟩]; exact ⟨rfl, rfl⟩
      · rw [if_neg (fun z => e z.2), if_neg (fun z => e z.2)]; exact hT q (by omega)
theorem reck {s : gS} (C : CX s w h hr law l th ti gr lick wk) : ∃ s', Sm [39, 40] s s' ∧ Tb s' w h law ti (w * h) ∧ f_X8_reckonBorders s = some (none, s') := by
  have hn := C.1.1.n
  unfold f_X8_reckonBorders
  exact reck_l (k := fun v1_7 s8 => (some (none, s8))) C g_N 0 s (Nat.zero_le _) (by unfold g_N; omega) Sm.rf (fun q hq => by omega)
theorem mean_cl {s : gS} {P : Nat → Nat} {p : Nat} (L : Ld s 14 w h) (ht : ∀ q, q < w * h → ti q ≤ 99) (hT : Tb s w h law ti (w * h)) (hR : Rl s 36 P) (hp : p < 2) {k : Int64 → Int32 → gS → gR} : ∀ (n i : Nat), i ≤ w * h → w * h - i < n → f_X8_meanOf_5 (nI p) k n (lN (mnS w h law ti P p i)) (nI i) s = k (lN (mnS w h law ti P p (w * h))) (nI (w * h)) s := by
  intro n
  induction n with
  | zero => intro i _ h2; omega
  | succ n ih =>
    intro i h1 h2
    have hn := L.1.n
    rw [f_X8_meanOf_5.eq_2, L.2.2.2.1]
    by_cases hi : w * h ≤ i
    · have e : i = w * h := by omega
      subst e
      rw [if_pos ((nI_leI (by omega) (by omega)).mpr (Nat.le_refl _))]
    · have hih := ih (i + 1) (by omega) (by omega)
      have hb : ∀ p, tS ti law w p i (w * h) < 2 ^ 31 := fun p => by
        have := tS_le (law := law) (w := w) (p := p) (b := i) ht (w * h) (Nat.le_refl _)
        omega
      rw [if_neg (by rw [nI_leI (by omega) (by omega)]; omega), g_ixn (by omega) (by omega), nI_clamp (by omega), hR i (by omega), (hT i (by omega)).1, (hT i (by omega)).2, nI_l (hb 0), nI_l (hb 1), lN_mul, lN_mul, lN_add, lN_add, nI_1]
      simp only [g_letl]
      rw [g_ixn (by omega) (by omega), g_ixn (by omega) (by omega)]
      rcases (show p = 0 ∨ p = 1 by omega) with rfl | rfl
      · rw [if_pos (by decide)]; exact hih
      · rw [if_neg (by decide)]; exact hih
theorem mean_c {s : gS} {P : Nat → Nat} {p : Nat} (L : Ld s 14 w h) (ht : ∀ q, q < w * h → ti q ≤ 99) (hT : Tb s w h law ti (w * h)) (hR : Rl s 36 P) (hP : sumT P (w * h) ≤ 1000000000) (hp : p < 2) : f_X8_meanOf (nI p) s = some (some (.int (nI (mnS w h law ti P p (w * h) / 1000000000))), s) := by
  have hn := L.1.n
  unfold f_X8_meanOf
  have h1 := mean_cl (k := fun v2_3 v4_4 s5 => (some (some (.int ((v2_3 / (1000000000 : Int64)).toInt32)), s5))) L ht hT hR hp g_N 0 (Nat.zero_le _) (by unfold g_N; omega)
  have hb := mnS_b (law := law) (p := p) L.1 ht hP (Nat.le_refl _)
  rw [show mnS w h law ti P p 0 = 0 from rfl, ← c64_0, ← c32_0] at h1
  rw [h1, c64_1000000000, pk_lDiv (by omega) (by omega) (by omega), lN_i]
theorem mwl {s : gS} {p : Nat} {lick' : Option Nat} (C : CX s w h hr law l th ti gr lick wk) (hT : Tb s w h law ti (w * h)) (hlk : ∀ q, lick' = some q → q < w * h) (hp : p < 2) : ∃ s', Sm [34, 35, 36, 37] s s' ∧ Rl s' 36 (odN w h (lkF l th gr lick') wk hr) ∧ f_X8_meanWithLick (nI p) (oI lick') s = some (some (.int (nI (mnF w h law ti (lkF l th gr lick') wk hr p))), s') := by
  have hn := C.1.1.n
  obtain ⟨s1, a1, a2, a3⟩ := look (lick := lick') C.1 C.2.1 C.2.2.2.1 (fun q hq => by have := hlk q hq; omega)
  have C1 := C.sm (a1.mono (fun k hk => by simp at hk ⊢; omega))
  have hF := C1.F lick'
  obtain ⟨s2, b1, b2, b3⟩ := run_c (H := hr) (by have := C.2.2.2.2.2.1; omega) C1.1 a2 hF C1.2.2.2.2.2.2.2.2.2.2.1 C1.2.2.2.2.2.2.2.2.2.2.2
  have S2' : Sm [34, 35, 36, 37] s s2 := (a1.mono (fun k hk => by simp at hk ⊢; omega)).tr (b1.sm.mono (fun k hk => by simp at hk ⊢; omega))
  have C2 := C.sm (S2'.mono (fun k hk => by simp at hk ⊢; omega))
  have hT2 : Tb s2 w h law ti (w * h) := by unfold Tb; rw [(S2' 39 (by simp)).1, (S2' 40 (by simp)).1]; exact hT
  refine ⟨s2, S2', b2, ?_⟩
  unfold f_X8_meanWithLick
  rw [a3, gb_v, C1.2.2.2.2.1, b3, gb_v, mean_c C2.1 (fun q hq => (C2.2.2.1 q hq).2) hT2 b2 (od_tot C.1.1 hF C.2.2.2.2.2.2.2.2.2.2.2 hr).1 hp, gb_i]
  rfl
end MEANC
section MEANM
variable {w h hr law : Nat} {l th ti gr : Nat → Nat} {lick wk : Option Nat}
theorem mean_ml {m : gS} {P : Nat → Nat} {p : Nat} (C : MX m w h hr law l th ti gr lick wk) (hR : Rl m 18 P) (hp : p < 2) {k : Int64 → Int32 → gS → gR} : ∀ (n i : Nat), i ≤ w * h → w * h - i < n → f_X10_meanOf_13 (nI p) k n (lN (mnS w h law ti P p i)) (nI i) m = k (lN (mnS w h law ti P p (w * h))) (nI (w * h)) m := by
  intro n
  induction n with
  | zero => intro i _ h2; omega
  | succ n ih =>
    intro i h1 h2
    have hn := C.1.1.n
    rw [f_X10_meanOf_13.eq_2, cells_m C.1, gb_i]
    by_cases hi : w * h ≤ i
    · have e : i = w * h := by omega
      subst e
      rw [if_pos ((nI_leI (by omega) (by omega)).mpr (Nat.le_refl _))]
    · have hih := ih (i + 1) (by omega) (by omega)
      have hb : tS ti law w p i (w * h) < 2 ^ 31 := by
        have := tS_le (law := law) (w := w) (p := p) (b := i) (n := w * h) (fun q hq => (C.2.2.1 q hq).2) (w * h) (Nat.le_refl _)
        omega
      rw [if_neg (by rw [nI_leI (by omega) (by omega)]; omega), tithes_m C.1 C.2.2.2.2.2.1 C.2.2.1 (by omega) C.2.2.2.2.2.2.1 hp, gb_i, g_ixn (by omega) (by omega), nI_clamp (by omega), hR i (by omega), nI_l hb, lN_mul, lN_add, nI_1, Nat.mul_comm]
      exact hih
theorem mean_m {m : gS} {p : Nat} (C : MX m w h hr law l th ti gr lick wk) (hp : p < 2) : ∃ m', S2 [18, 19] m m' ∧ f_X10_meanOf (nI p) m = some (some (.int (nI (mnF w h law ti (lkF l th gr lick) wk hr p))), m') := by
  have hn := C.1.1.n
  have hF := C.F lick
  obtain ⟨m1, a1, a2, a3⟩ := find_m (H := hr) (by have := C.2.2.2.2.1; omega) C.1 C.2.1 C.2.2.2.2.2.2.2.1 C.2.2.2.2.2.2.2.2
  refine ⟨m1, a1, ?_⟩
  have h1 := mean_ml (k := fun v2_7 v4_8 s9 => (some (some (.int ((v2_7 / (1000000000 : Int64)).toInt32)), s9))) (C.s1 a1.1) a2 hp g_N 0 (Nat.zero_le _) (by unfold g_N; omega)
  have hb := mnS_b (law := law) (p := p) (i := w * h) C.1.1 (fun q hq => (C.2.2.1 q hq).2) (od_tot C.1.1 hF C.2.2.2.2.2.2.2.2 hr).1 (Nat.le_refl _)
  unfold f_X10_meanOf
  rw [C.2.2.2.1, a3, gb_v]
  rw [show mnS w h law ti (odN w h (lkF l th gr lick) wk hr) p 0 = 0 from rfl, ← c64_0, ← c32_0] at h1
  rw [h1, c64_1000000000, pk_lDiv (by omega) (by omega) (by omega), lN_i]
  rfl
end MEANM
