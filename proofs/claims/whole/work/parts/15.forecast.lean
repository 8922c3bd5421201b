/-! The class's forecast: likings and their sums -/
def Sm (K : List Nat) (s s' : gS) : Prop := ∀ k, k ∉ K → s'.1 k = s.1 k ∧ s'.2 k = s.2 k
theorem Sm.rf {K : List Nat} {s : gS} : Sm K s s := fun _ _ => ⟨rfl, rfl⟩
theorem Sm.tr {K : List Nat} {s s' s'' : gS} (h : Sm K s s') (h2 : Sm K s' s'') : Sm K s s'' := fun k hk => ⟨(h2 k hk).1.trans (h k hk).1, (h2 k hk).2.trans (h k hk).2⟩
theorem Sm.mono {K K' : List Nat} {s s' : gS} (h : Sm K s s') (hK : ∀ k, k ∈ K → k ∈ K') : Sm K' s s' := fun k hk => h k (fun q => hk (hK k q))
theorem Sm.si {K : List Nat} {s : gS} {k j : Nat} {v : Int32} (hk : k ∈ K) : Sm K s (g_si s k j v) := fun a ha => ⟨sir (fun e => ha (e ▸ hk)), rfl⟩
theorem Sm.sl {K : List Nat} {s : gS} {k j : Nat} {v : Int64} (hk : k ∈ K) : Sm K s (g_sl s k j v) := fun a ha => ⟨rfl, slr (fun e => ha (e ▸ hk))⟩
theorem Ld.congr {s s' : gS} {a w h : Nat} (L : Ld s a w h) (hs : ∀ k, a ≤ k → k ≤ a + 7 → s'.1 k = s.1 k) : Ld s' a w h := by
  obtain ⟨d, e1, e2, e3, e4⟩ := L
  refine ⟨d, ?_, ?_, ?_, ?_⟩
  · rw [hs a (by omega) (by omega)]; exact e1
  · rw [hs a (by omega) (by omega)]; exact e2
  · rw [hs a (by omega) (by omega)]; exact e3
  · rw [hs (a + 1) (by omega) (by omega), hs (a + 2) (by omega) (by omega), hs (a + 7) (by omega) (by omega), hs (a + 6) (by omega) (by omega)]; exact e4
theorem LkC.congr {s s' : gS} {a n : Nat} {l th : Nat → Nat} (L : LkC s a n l th) (hs : ∀ k, a ≤ k → k ≤ a + 7 → s'.1 k = s.1 k) : LkC s' a n l th := by
  unfold LkC at *
  rw [hs a (by omega) (by omega), hs (a + 4) (by omega) (by omega)]
  exact L
theorem Sm.l2 {s s' : gS} (h : Sm [34, 35] s s') : Sm [34, 35, 36, 37] s s' := h.mono (fun k hk => by simp at hk ⊢; omega)
theorem Sm.land {s s' : gS} (h : Sm [34, 35, 36, 37] s s') : ∀ k, 14 ≤ k → k ≤ 14 + 7 → s'.1 k = s.1 k := fun k h1 h2 => (h k (by simp; omega)).1
theorem way_k2 : chk3 (fun w h q => !(decide (w * h ≤ 40 ∧ q < w * h)) || ((wayL w h q).all (fun f => (wayL w h f).contains q) && decide (wayL w h q).Nodup)) = true := by decide +kernel
theorem way_sym {w h q : Nat} (d : Dm w h) (hq : q < w * h) : (∀ f, f ∈ wayL w h q → q ∈ wayL w h f) ∧ (wayL w h q).Nodup := by
  have h1 := chk3_of way_k2 (show w < 10 by have := d.w; omega) (show h < 10 by have := d.h; omega) (show q < 41 by have := (d.q hq).1; omega)
  rw [show decide (w * h ≤ 40 ∧ q < w * h) = true from decide_eq_true ⟨d.n, hq⟩] at h1
  simp only [Bool.not_true, Bool.false_or, Bool.and_eq_true, decide_eq_true_eq, List.all_eq_true, List.contains_iff_mem] at h1
  exact h1
def updN (f : Nat → Nat) (k v : Nat) : Nat → Nat := fun j => if j = k then v else f j
theorem sumL_out {f : Nat → Nat} {c v : Nat} : ∀ {l : List Nat}, c ∉ l → sumL (updN f c v) l = sumL f l
  | [], _ => rfl
  | t :: r, h => by
    have h1 : ¬ t = c := fun e => h (e ▸ List.mem_cons_self)
    have h2 := sumL_out (f := f) (v := v) (l := r) (fun q => h (List.mem_cons_of_mem _ q))
    show updN f c v t + sumL (updN f c v) r = f t + sumL f r
    rw [h2, show updN f c v t = f t from if_neg h1]
theorem sumL_in {f : Nat → Nat} {c v : Nat} : ∀ {l : List Nat}, c ∈ l → l.Nodup → sumL (updN f c v) l + f c = sumL f l + v
  | t :: r, h, hn => by
    rw [List.nodup_cons] at hn
    by_cases e : t = c
    · subst e
      have h2 := sumL_out (f := f) (v := v) (l := r) hn.1
      show updN f t v t + sumL (updN f t v) r + f t = f t + sumL f r + v
      rw [h2, show updN f t v t = v from if_pos rfl]
      omega
    · have hc : c ∈ r := by
        rcases List.mem_cons.mp h with q | q
        · exact absurd q.symm e
        · exact q
      have h2 := sumL_in (f := f) (v := v) hc hn.2
      simp only [sumL]
      have e2 : updN f c v t = f t := if_neg e
      rw [e2]
      omega
theorem sumL_mem {f : Nat → Nat} {c : Nat} : ∀ {l : List Nat}, c ∈ l → f c ≤ sumL f l
  | t :: r, h => by
    rcases List.mem_cons.mp h with q | q
    · subst q; simp only [sumL]; omega
    · have := sumL_mem (f := f) q
      simp only [sumL]; omega
theorem sumL_congr {f g : Nat → Nat} : ∀ {l : List Nat}, (∀ t, t ∈ l → f t = g t) → sumL f l = sumL g l
  | [], _ => rfl
  | t :: r, h => by
    simp only [sumL]
    rw [h t List.mem_cons_self, sumL_congr (fun q hq => h q (List.mem_cons_of_mem _ hq))]
theorem sumL_le {f : Nat → Nat} {B : Nat} : ∀ {l : List Nat}, (∀ t, t ∈ l → f t ≤ B) → sumL f l ≤ B * l.length
  | [], _ => Nat.zero_le _
  | t :: r, h => by
    have h1 := h t List.mem_cons_self
    have h2 := sumL_le (f := f) (B := B) (l := r) (fun q hq => h q (List.mem_cons_of_mem _ hq))
    simp only [sumL, List.length_cons, Nat.mul_add, Nat.mul_one]
    omega
theorem sumL_zero {f : Nat → Nat} : ∀ {l : List Nat}, (∀ t, t ∈ l → f t = 0) → sumL f l = 0
  | [], _ => rfl
  | t :: r, h => by simp only [sumL]; rw [h t List.mem_cons_self, sumL_zero (fun q hq => h q (List.mem_cons_of_mem _ hq))]
/-- likings and sums as the forecast holds them -/
def Vv (s : gS) (w h : Nat) (F : Nat → Nat) : Prop := (∀ q, q < w * h → s.1 34 q = nI (F q) ∧ F q ≤ 201) ∧ ∀ q, q < w * h → s.1 35 q = nI (sumL F (wayL w h q))
theorem Vv.congr {s : gS} {w h : Nat} {F F' : Nat → Nat} (d : Dm w h) (V : Vv s w h F) (hF : ∀ q, q < w * h → F q = F' q) : Vv s w h F' := by
  refine ⟨fun q hq => by rw [← hF q hq]; exact V.1 q hq, fun q hq => ?_⟩
  rw [← sumL_congr (fun t ht => hF t ((way_len d hq).2.2 t ht))]
  exact V.2 q hq
theorem setL_l {s0 : gS} {w h c l : Nat} {F : Nat → Nat} (L : Ld s0 14 w h) (hc : c < w * h) (hl : l ≤ 201) (V : Vv s0 w h F) {k : Int32 → gS → gR} : ∀ (n i : Nat) (s : gS), i ≤ 5 → 5 - i < n → Sm [34, 35] s0 s → (∀ q, q < w * h → s.1 34 q = nI (updN F c l q)) → (∀ q, q < w * h → s.1 35 q = nI (if q ∈ (wayL w h c).take i then sumL (updN F c l) (wayL w h q) else sumL F (wayL w h q))) →
    ∃ s', Sm [34, 35] s0 s' ∧ Vv s' w h (updN F c l) ∧ f_X1_setLiking_31 (nI c) (nI l - nI (F c)) k n (nI i) s = k (nI 5) s' := by
  intro n
  induction n with
  | zero => intro i s _ h2; omega
  | succ n ih =>
    intro i s h1 h2 hS h34 h35
    have hn := L.1.n
    obtain ⟨l1, l2, l3⟩ := way_len L.1 hc
    obtain ⟨y1, y2⟩ := way_sym L.1 hc
    have L' : Ld s 14 w h := L.congr (Sm.land hS.l2)
    rw [f_X1_setLiking_31.eq_2, c32_5]
    by_cases hi : 5 ≤ i
    · have e : i = 5 := by omega
      subst e
      rw [if_pos ((nI_leI (by omega) (by omega)).mpr (Nat.le_refl _))]
      refine ⟨s, hS, ⟨fun q hq => ⟨h34 q hq, ?_⟩, fun q hq => ?_⟩, rfl⟩
      · unfold updN; split
        · exact hl
        · exact (V.1 q hq).2
      · rw [h35 q hq, List.take_of_length_le l2]
        by_cases hm : q ∈ wayL w h c
        · rw [if_pos hm]
        · rw [if_neg hm, sumL_out]
          intro hq2
          exact hm ((way_sym L.1 hq).1 c hq2)
    · rw [if_neg (by rw [nI_leI (by omega) (by omega)]; omega), wayFrom_in L' hc (by omega), gb_i]
      by_cases hlen : i < (wayL w h c).length
      · have hf : (wayL w h c)[i]? = some (wayL w h c)[i] := List.getElem?_eq_getElem hlen
        generalize hfe : (wayL w h c)[i] = f at hf
        have hmem : f ∈ wayL w h c := List.mem_of_getElem? hf
        have hfn := l3 f hmem
        have hnot : f ∉ (wayL w h c).take i := by
          intro hm
          obtain ⟨j, hj, e⟩ := List.mem_take_iff_getElem.mp hm
          have e2 : (wayL w h c)[j]'(by omega) = (wayL w h c)[i] := by rw [hfe]; exact e
          have := (List.getElem_inj y2).mp e2
          omega
        rw [hf, show oI (some f) = nI f from rfl, has_in L' hfn, gb_i, if_neg (by decide), g_ixn (by omega) (by omega), g_ixn (by omega) (by omega), nI_clamp (by omega), h35 f hfn, if_neg hnot, nI_1]
        have hc2 : c ∈ wayL w h f := y1 f hmem
        have hsum := sumL_in (f := F) (v := l) hc2 (way_sym L.1 hfn).2
        have hle := sumL_mem (f := F) hc2
        have hv : nI (sumL F (wayL w h f)) + (nI l - nI (F c)) = nI (sumL (updN F c l) (wayL w h f)) := by
          rw [sub_assoc32, nI_add, pk_sub (by omega)]; congr 1; omega
        rw [hv]
        simp only [g_let]
        refine ih (i + 1) _ (by omega) (by omega) (hS.tr (Sm.si (by simp))) (fun q hq => ?_) (fun q hq => ?_)
        · rw [sir (by decide)]; exact h34 q hq
        · rw [si1]
          have ht : (wayL w h c).take (i + 1) = (wayL w h c).take i ++ [f] := by rw [List.take_succ, hf]; rfl
          rw [ht]
          by_cases hqf : q = f
          · subst hqf
            rw [if_pos ⟨rfl, rfl⟩, if_pos (by simp)]
          · rw [if_neg (by simp [hqf]), h35 q hq]
            simp [hqf]
      · rw [List.getElem?_eq_none (by omega), show oI none = -1 from rfl, has_no, gb_i, if_pos rfl, nI_1]
        refine ih (i + 1) s (by omega) (by omega) hS h34 (fun q hq => ?_)
        rw [h35 q hq, List.take_of_length_le (by omega), List.take_of_length_le (by omega)]
theorem setL {s : gS} {w h c l : Nat} {F : Nat → Nat} (L : Ld s 14 w h) (hc : c < w * h) (hl : l ≤ 201) (V : Vv s w h F) : ∃ s', Sm [34, 35] s s' ∧ Vv s' w h (updN F c l) ∧ f_X1_setLiking (nI c) (nI l) s = some (none, s') := by
  have hn := L.1.n
  unfold f_X1_setLiking
  rw [has_in L hc, gb_i, if_neg (by decide), g_ixn (by omega) (by omega), nI_clamp (by omega), (V.1 c hc).1]
  simp only [g_leti, g_let]
  rw [g_ixn (by omega) (by omega)]
  have hh := setL_l (k := fun _ s11 => some (none, s11)) L hc hl V g_N 0 (g_si s 34 c (nI l)) (by omega) (by unfold g_N; omega) (Sm.si (by simp)) (fun q hq => ?_) (fun q hq => ?_)
  · obtain ⟨s', a1, a2, a3⟩ := hh
    exact ⟨s', a1, a2, a3⟩
  · rw [si1]
    unfold updN
    by_cases e : q = c
    · rw [if_pos ⟨rfl, e⟩, if_pos e]
    · rw [if_neg (fun z => e z.2), if_neg e]; exact (V.1 q hq).1
  · rw [sir (by decide)]
    simp only [List.take_zero, List.not_mem_nil, if_false]
    exact V.2 q hq
/-- what the pasture says: lick, grass -/
def Pc2 (s : gS) (n : Nat) (gr : Nat → Nat) : Prop := ∀ q, q < n → s.1 23 q = nI (gr q) ∧ gr q ≤ 18
theorem look_1 {s0 : gS} {w h : Nat} {v : Int32} (L : Ld s0 14 w h) {k : Int32 → gS → gR} : ∀ (n i : Nat) (s : gS), i ≤ w * h → w * h - i < n → Sm [34, 35] s0 s → (∀ q, q < i → s.1 34 q = nI 0 ∧ s.1 35 q = nI 0) →
    ∃ s', Sm [34, 35] s0 s' ∧ (∀ q, q < w * h → s'.1 34 q = nI 0 ∧ s'.1 35 q = nI 0) ∧ f_X1_lookAround_2 v k n (nI i) s = k (nI (w * h)) s' := by
  intro n
  induction n with
  | zero => intro i s _ h2; omega
  | succ n ih =>
    intro i s h1 h2 hS hz
    have hn := L.1.n
    have L' : Ld s 14 w h := L.congr (Sm.land hS.l2)
    rw [f_X1_lookAround_2.eq_2, L'.2.2.2.1]
    by_cases hi : w * h ≤ i
    · have e : i = w * h := by omega
      subst e
      rw [if_pos ((nI_leI (by omega) (by omega)).mpr (Nat.le_refl _))]
      exact ⟨s, hS, hz, rfl⟩
    · rw [if_neg (by rw [nI_leI (by omega) (by omega)]; omega), g_ixn (by omega) (by omega), nI_clamp (by omega)]
      simp only [g_let]
      rw [g_ixn (by omega) (by omega), nI_1]
      refine ih (i + 1) _ (by omega) (by omega) ((hS.tr (Sm.si (by simp))).tr (Sm.si (by simp))) (fun q hq => ?_)
      rw [sir (a := 34) (by decide), si1, si1, sir (a := 35) (by decide)]
      by_cases e : q = i
      · rw [if_pos ⟨rfl, e⟩, if_pos ⟨rfl, e⟩]; exact ⟨rfl, rfl⟩
      · rw [if_neg (fun z => e z.2), if_neg (fun z => e z.2)]; exact hz q (by omega)
theorem look_2 {s0 : gS} {w h : Nat} {l th gr : Nat → Nat} {lick : Option Nat} (L : Ld s0 14 w h) (K : LkC s0 14 (w * h) l th) (G : Pc2 s0 (w * h) gr) (hlk : ∀ q, lick = some q → q < 2 ^ 31) {k : Int32 → gS → gR} : ∀ (n i : Nat) (s : gS), i ≤ w * h → w * h - i < n → Sm [34, 35] s0 s → Vv s w h (fun q => if q < i then lkF l th gr lick q else 0) →
    ∃ s', Sm [34, 35] s0 s' ∧ Vv s' w h (lkF l th gr lick) ∧ f_X1_lookAround_35 (oI lick) k n (nI i) s = k (nI (w * h)) s' := by
  intro n
  induction n with
  | zero => intro i s _ h2; omega
  | succ n ih =>
    intro i s h1 h2 hS hV
    have hn := L.1.n
    have L' : Ld s 14 w h := L.congr (Sm.land hS.l2)
    have K' : LkC s 14 (w * h) l th := K.congr (Sm.land hS.l2)
    rw [f_X1_lookAround_35.eq_2, L'.2.2.2.1]
    by_cases hi : w * h ≤ i
    · have e : i = w * h := by omega
      subst e
      rw [if_pos ((nI_leI (by omega) (by omega)).mpr (Nat.le_refl _))]
      exact ⟨s, hS, hV.congr L.1 (fun q hq => by simp only [if_pos hq]), rfl⟩
    · have hi2 : i < w * h := by omega
      have hg := G i hi2
      have e23 : s.1 23 = s0.1 23 := (hS 23 (by simp)).1
      have hb := lkF_le (l := l) (th := th) (gr := gr) (lick := lick) (q := i) (fun j hj => (K.1 j hj).2) hg.2
      rw [if_neg (by rw [nI_leI (by omega) (by omega)]; omega), g_ixn (by omega) (by omega), nI_clamp (by omega), e23, hg.1]
      have hcase : (nI i = oI lick) = (lick = some i) := by
        rw [← oI_eq (o := lick) (q := i) (by omega) hlk]
        exact propext ⟨fun e => e.symm, fun e => e.symm⟩
      obtain ⟨s1, a1, a2, a3⟩ := setL L' hi2 hb.2 hV
      have fin : ∃ s', Sm [34, 35] s0 s' ∧ Vv s' w h (lkF l th gr lick) ∧ f_X1_lookAround_35 (oI lick) k n (nI (i + 1)) s1 = k (nI (w * h)) s' := by
        refine ih (i + 1) s1 (by omega) (by omega) (hS.tr a1) (a2.congr L.1 (fun q hq => ?_))
        unfold updN
        by_cases e : q = i
        · subst e; simp
        · by_cases e2 : q < i
          · rw [if_neg e]; simp only [e2, if_true]; rw [if_pos (by omega)]
          · rw [if_neg e]; simp only [e2, if_false]; rw [if_neg (by omega)]
      simp only [hcase]
      by_cases hk : lick = some i
      · rw [if_pos hk]
        have h3 := liking_c (b := true) L' K' hi2 hg.2
        simp only [if_true] at h3
        have ef : lkF l th gr lick i = lkN l (gr i) (th i) + 20 := by unfold lkF; rw [if_pos hk]
        rw [h3, gb_i, ← ef, a3, gb_v, nI_1]
        exact fin
      · rw [if_neg hk]
        have h3 := liking_c (b := false) L' K' hi2 hg.2
        simp only [Bool.false_eq_true, if_false, Nat.add_zero] at h3
        have ef : lkF l th gr lick i = lkN l (gr i) (th i) := by unfold lkF; rw [if_neg hk]; rfl
        rw [h3, gb_i, ← ef, a3, gb_v, nI_1]
        exact fin
theorem look {s : gS} {w h : Nat} {l th gr : Nat → Nat} {lick : Option Nat} (L : Ld s 14 w h) (K : LkC s 14 (w * h) l th) (G : Pc2 s (w * h) gr) (hlk : ∀ q, lick = some q → q < 2 ^ 31) : ∃ s', Sm [34, 35] s s' ∧ Vv s' w h (lkF l th gr lick) ∧ f_X1_lookAround (oI lick) s = some (none, s') := by
  have hn := L.1.n
  unfold f_X1_lookAround
  obtain ⟨s1, a1, a2, a3⟩ := look_1 (v := oI lick) (k := fun _ s4 => f_X1_lookAround_35 (oI lick) (fun _ s12 => some (none, s12)) g_N 0 s4) L g_N 0 s (Nat.zero_le _) (by unfold g_N; omega) Sm.rf (fun q hq => by omega)
  have L' : Ld s1 14 w h := L.congr (Sm.land a1.l2)
  have K' : LkC s1 14 (w * h) l th := K.congr (Sm.land a1.l2)
  have G' : Pc2 s1 (w * h) gr := fun q hq => by rw [(a1 23 (by simp)).1]; exact G q hq
  have V0 : Vv s1 w h (fun q => if q < 0 then lkF l th gr lick q else 0) := by
    refine ⟨fun q hq => ⟨by rw [(a2 q hq).1]; rfl, by simp⟩, fun q hq => ?_⟩
    rw [(a2 q hq).2, sumL_zero (fun t _ => by simp)]
  obtain ⟨s2, b1, b2, b3⟩ := look_2 (k := fun _ s12 => some (none, s12)) L' K' G' hlk g_N 0 s1 (Nat.zero_le _) (by unfold g_N; omega) Sm.rf V0
  exact ⟨s2, a1.tr b1, b2, a3.trans b3⟩
theorem tryG {s : gS} {w h c g : Nat} {l th F : Nat → Nat} {lick : Option Nat} (L : Ld s 14 w h) (K : LkC s 14 (w * h) l th) (hlick : s.1 22 5 = oI lick) (hlk : ∀ q, lick = some q → q < 2 ^ 31) (hc : c < w * h) (hg : g ≤ 18) (V : Vv s w h F) : ∃ s', Sm [34, 35] s s' ∧ Vv s' w h (updN F c (lkN l g (th c) + if lick = some c then 20 else 0)) ∧ f_X1_tryGrass (nI c) (nI g) s = some (none, s') := by
  have hn := L.1.n
  have hb := lkN_le (l := l) (t := th c) (fun j hj => (K.1 j hj).2) hg
  have hcase : (nI c = oI lick) = (lick = some c) := by
    rw [← oI_eq (o := lick) (q := c) (by omega) hlk]
    exact propext ⟨fun e => e.symm, fun e => e.symm⟩
  unfold f_X1_tryGrass
  rw [hlick]
  simp only [hcase]
  by_cases hk : lick = some c
  · rw [if_pos hk, if_pos hk]
    have h3 := liking_c (b := true) L K hc hg
    simp only [if_true] at h3
    obtain ⟨s1, a1, a2, a3⟩ := setL (l := lkN l g (th c) + 20) L hc (by omega) V
    exact ⟨s1, a1, a2, by rw [h3, gb_i, a3, gb_v]⟩
  · rw [if_neg hk, if_neg hk]
    have h3 := liking_c (b := false) L K hc hg
    simp only [Bool.false_eq_true, if_false] at h3
    obtain ⟨s1, a1, a2, a3⟩ := setL (l := lkN l g (th c) + 0) L hc (by omega) V
    exact ⟨s1, a1, a2, by rw [h3, gb_i, a3, gb_v]⟩
