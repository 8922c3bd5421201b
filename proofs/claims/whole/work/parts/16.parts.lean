/-! The odds, hour by hour -/
def dst (F : Nat → Nat) (all p : Nat) : List Nat → Nat → (Nat → Nat) → (Nat → Nat)
  | [], _, A => A
  | [t], z, A => updN A t (A t + z)
  | t :: u :: r, z, A => dst F all p (u :: r) (z - p * F t / all) (updN A t (A t + p * F t / all))
def stpN (w h : Nat) (F P : Nat → Nat) : Nat → (Nat → Nat)
  | 0 => fun _ => 0
  | c + 1 => dst F (sumL F (wayL w h c)) (P c) (wayL w h c) (P c) (stpN w h F P c)
def odN (w h : Nat) (F : Nat → Nat) (wk : Option Nat) : Nat → (Nat → Nat)
  | 0 => fun q => if wk = some q then 1000000000 else 0
  | k + 1 => stpN w h F (odN w h F wk k) (w * h)
def sumT (A : Nat → Nat) : Nat → Nat
  | 0 => 0
  | n + 1 => sumT A n + A n
theorem sumT_upd {A : Nat → Nat} {t v : Nat} : ∀ {n : Nat}, sumT (updN A t (A t + v)) n = sumT A n + (if t < n then v else 0)
  | 0 => by simp [sumT]
  | n + 1 => by
    have ih := sumT_upd (A := A) (t := t) (v := v) (n := n)
    show sumT (updN A t (A t + v)) n + updN A t (A t + v) n = sumT A n + A n + _
    rw [ih]
    unfold updN
    by_cases e : n = t
    · subst e; rw [if_pos rfl, if_neg (by omega), if_pos (by omega)]; omega
    · rw [if_neg e]
      by_cases e2 : t < n
      · rw [if_pos e2, if_pos (by omega)]; omega
      · rw [if_neg e2, if_neg (by omega)]; omega
theorem sumT_mem {A : Nat → Nat} {q : Nat} : ∀ {n : Nat}, q < n → A q ≤ sumT A n
  | n + 1, h => by
    show A q ≤ sumT A n + A n
    by_cases e : q = n
    · subst e; omega
    · have := sumT_mem (A := A) (show q < n by omega)
      omega
theorem sumT_congr {A B : Nat → Nat} : ∀ {n : Nat}, (∀ q, q < n → A q = B q) → sumT A n = sumT B n
  | 0, _ => rfl
  | n + 1, h => by
    show sumT A n + A n = sumT B n + B n
    rw [sumT_congr (fun q hq => h q (by omega)), h n (by omega)]
theorem dst_len {F : Nat → Nat} {all p : Nat} {l : List Nat} {i z : Nat} {A : Nat → Nat} (h : i + 1 < l.length) : dst F all p (l.drop i) z A = dst F all p (l.drop (i + 1)) (z - p * F (l[i]'(by omega)) / all) (updN A (l[i]'(by omega)) (A (l[i]'(by omega)) + p * F (l[i]'(by omega)) / all)) := by
  rw [List.drop_eq_getElem_cons (by omega), List.drop_eq_getElem_cons (i := i + 1) h]; rfl
theorem dst_last {F : Nat → Nat} {all p : Nat} {l : List Nat} {i z : Nat} {A : Nat → Nat} (h : i + 1 = l.length) : dst F all p (l.drop i) z A = updN A (l[i]'(by omega)) (A (l[i]'(by omega)) + z) := by
  rw [List.drop_eq_getElem_cons (by omega), List.drop_eq_nil_of_le (by omega)]; rfl
/-- a part taken is no more than what is left -/
theorem dst_ok {F : Nat → Nat} {all p t s z : Nat} (ha : 0 < all) (h : p * (F t + s) ≤ z * all) : p * F t / all ≤ z ∧ p * s ≤ (z - p * F t / all) * all := by
  have h1 : p * F t / all * all ≤ p * F t := Nat.div_mul_le_self _ _
  rw [Nat.mul_add] at h
  have h2 : p * F t / all ≤ z := Nat.le_of_mul_le_mul_right (Nat.le_trans h1 (by omega)) ha
  refine ⟨h2, ?_⟩
  rw [Nat.sub_mul]
  omega
theorem dst_tot {F : Nat → Nat} {all p n : Nat} (ha : 0 < all) : ∀ {l : List Nat} {z : Nat} {A : Nat → Nat}, l ≠ [] → (∀ t ∈ l, t < n) → p * sumL F l ≤ z * all → sumT (dst F all p l z A) n = sumT A n + z
  | [], _, _, h, _, _ => absurd rfl h
  | [t], z, A, _, hl, _ => by
    show sumT (updN A t (A t + z)) n = _
    rw [sumT_upd, if_pos (hl t List.mem_cons_self)]
  | t :: u :: r, z, A, _, hl, hz => by
    obtain ⟨h1, h2⟩ := dst_ok (F := F) (s := sumL F (u :: r)) ha hz
    show sumT (dst F all p (u :: r) (z - p * F t / all) (updN A t (A t + p * F t / all))) n = _
    rw [dst_tot ha (by simp) (fun q hq => hl q (List.mem_cons_of_mem _ hq)) h2, sumT_upd, if_pos (hl t List.mem_cons_self)]
    omega
theorem dst_out {F : Nat → Nat} {all p q : Nat} : ∀ {l : List Nat} {z : Nat} {A : Nat → Nat}, q ∉ l → dst F all p l z A q = A q
  | [], _, _, _ => rfl
  | [t], z, A, h => if_neg (fun (e : q = t) => h (by rw [e]; exact List.mem_cons_self))
  | t :: u :: r, z, A, h => by
    show dst F all p (u :: r) (z - p * F t / all) (updN A t (A t + p * F t / all)) q = _
    rw [dst_out (fun hq => h (List.mem_cons_of_mem _ hq))]
    exact if_neg (fun (e : q = t) => h (by rw [e]; exact List.mem_cons_self))
theorem updN_self {A : Nat → Nat} {t : Nat} : updN A t (A t + 0) = A := by
  funext q
  unfold updN
  by_cases e : q = t
  · subst e; simp
  · rw [if_neg e]
theorem dst_zero {F : Nat → Nat} {all : Nat} : ∀ {l : List Nat} {A : Nat → Nat}, dst F all 0 l 0 A = A
  | [], _ => rfl
  | [t], A => updN_self
  | t :: u :: r, A => by
    show dst F all 0 (u :: r) (0 - 0 * F t / all) (updN A t (A t + 0 * F t / all)) = A
    rw [Nat.zero_mul, Nat.zero_div, updN_self]
    exact dst_zero
theorem all_pos {w h q : Nat} {F : Nat → Nat} (d : Dm w h) (hq : q < w * h) (hF : ∀ t, t < w * h → 1 ≤ F t ∧ F t ≤ 201) : 0 < sumL F (wayL w h q) ∧ sumL F (wayL w h q) ≤ 1005 := by
  obtain ⟨l1, l2, l3⟩ := way_len d hq
  refine ⟨?_, ?_⟩
  · have hm : (wayL w h q)[0] ∈ wayL w h q := List.getElem_mem l1
    have h1 := sumL_mem (f := F) hm
    have h2 := (hF _ (l3 _ hm)).1
    omega
  · have := sumL_le (f := F) (B := 201) (l := wayL w h q) (fun t ht => (hF t (l3 t ht)).2)
    have : 201 * (wayL w h q).length ≤ 201 * 5 := Nat.mul_le_mul_left _ l2
    omega
theorem stp_tot {w h : Nat} {F P : Nat → Nat} (d : Dm w h) (hF : ∀ t, t < w * h → 1 ≤ F t ∧ F t ≤ 201) : ∀ c, c ≤ w * h → sumT (stpN w h F P c) (w * h) = sumT P c
  | 0, _ => by
    have : ∀ n, sumT (fun _ => 0) n = 0 := fun n => by induction n with
      | zero => rfl
      | succ n ih => show sumT _ n + 0 = 0; rw [ih]
    exact this _
  | c + 1, hc => by
    have ih := stp_tot (P := P) d hF c (by omega)
    obtain ⟨l1, l2, l3⟩ := way_len d (show c < w * h by omega)
    show sumT (dst F (sumL F (wayL w h c)) (P c) (wayL w h c) (P c) (stpN w h F P c)) (w * h) = sumT P c + P c
    rw [dst_tot (all_pos d (by omega) hF).1 (fun e => by rw [e] at l1; exact absurd l1 (by simp)) l3 (Nat.le_refl _), ih]
theorem stp_out {w h : Nat} {F P : Nat → Nat} (d : Dm w h) {q : Nat} (hq : w * h ≤ q) : ∀ c, c ≤ w * h → stpN w h F P c q = 0
  | 0, _ => rfl
  | c + 1, hc => by
    show dst F (sumL F (wayL w h c)) (P c) (wayL w h c) (P c) (stpN w h F P c) q = 0
    rw [dst_out (fun hm => by have := (way_len d (show c < w * h by omega)).2.2 q hm; omega)]
    exact stp_out d hq c (by omega)
theorem od_tot {w h : Nat} {F : Nat → Nat} {wk : Option Nat} (d : Dm w h) (hF : ∀ t, t < w * h → 1 ≤ F t ∧ F t ≤ 201) (hwk : ∀ q, wk = some q → q < w * h) : ∀ k, sumT (odN w h F wk k) (w * h) ≤ 1000000000 ∧ ∀ q, w * h ≤ q → odN w h F wk k q = 0
  | 0 => by
    refine ⟨?_, fun q hq => if_neg (fun e => by have := hwk q e; omega)⟩
    show sumT (fun q => if wk = some q then 1000000000 else 0) (w * h) ≤ _
    have : ∀ n, sumT (fun q => if wk = some q then 1000000000 else 0) n ≤ 1000000000 ∧ ((∀ q, q < n → ¬ wk = some q) → sumT (fun q => if wk = some q then 1000000000 else 0) n = 0) := fun n => by
      induction n with
      | zero => exact ⟨Nat.zero_le _, fun _ => rfl⟩
      | succ n ih =>
        show sumT _ n + (if wk = some n then 1000000000 else 0) ≤ _ ∧ (_ → sumT _ n + (if wk = some n then 1000000000 else 0) = 0)
        by_cases e : wk = some n
        · have h0 := ih.2 (fun q hq e2 => by rw [e] at e2; cases e2; omega)
          rw [h0, if_pos e]
          exact ⟨Nat.le_refl _, fun h => absurd e (h n (by omega))⟩
        · rw [if_neg e]
          exact ⟨ih.1, fun h => ih.2 (fun q hq => h q (by omega))⟩
    exact (this _).1
  | k + 1 => by
    have ih := od_tot d hF hwk k
    refine ⟨?_, fun q hq => stp_out d hq _ (Nat.le_refl _)⟩
    show sumT (stpN w h F (odN w h F wk k) (w * h)) (w * h) ≤ _
    rw [stp_tot d hF _ (Nat.le_refl _)]
    exact ih.1
theorem od_le {w h : Nat} {F : Nat → Nat} {wk : Option Nat} (d : Dm w h) (hF : ∀ t, t < w * h → 1 ≤ F t ∧ F t ≤ 201) (hwk : ∀ q, wk = some q → q < w * h) (k q : Nat) : odN w h F wk k q ≤ 1000000000 := by
  obtain ⟨h1, h2⟩ := od_tot d hF hwk k
  by_cases hq : q < w * h
  · exact Nat.le_trans (sumT_mem hq) h1
  · rw [h2 q (by omega)]; omega
/-- only rows of longs change -/
def S2 (K : List Nat) (s s' : gS) : Prop := s'.1 = s.1 ∧ ∀ k, k ∉ K → s'.2 k = s.2 k
theorem S2.rf {K : List Nat} {s : gS} : S2 K s s := ⟨rfl, fun _ _ => rfl⟩
theorem S2.tr {K : List Nat} {s s' s'' : gS} (h : S2 K s s') (h2 : S2 K s' s'') : S2 K s s'' := ⟨h2.1.trans h.1, fun k hk => (h2.2 k hk).trans (h.2 k hk)⟩
theorem S2.sl {K : List Nat} {s : gS} {k j : Nat} {v : Int64} (hk : k ∈ K) : S2 K s (g_sl s k j v) := ⟨rfl, fun _ ha => slr (fun e => ha (e ▸ hk))⟩
theorem S2.mono {K K' : List Nat} {s s' : gS} (h : S2 K s s') (hK : ∀ k, k ∈ K → k ∈ K') : S2 K' s s' := ⟨h.1, fun k hk => h.2 k (fun q => hk (hK k q))⟩
theorem S2.sm {K : List Nat} {s s' : gS} (h : S2 K s s') : Sm K s s' := fun k hk => ⟨by rw [h.1], h.2 k hk⟩
theorem Ld.s1 {s s' : gS} {a w h : Nat} (L : Ld s a w h) (e : s'.1 = s.1) : Ld s' a w h := by unfold Ld at *; rw [e]; exact L
theorem Vv.s1 {s s' : gS} {w h : Nat} {F : Nat → Nat} (V : Vv s w h F) (e : s'.1 = s.1) : Vv s' w h F := by unfold Vv at *; rw [e]; exact V
theorem Md.s1 {s s' : gS} {w h : Nat} (L : Md s w h) (e : s'.1 = s.1) : Md s' w h := by unfold Md at *; rw [e]; exact L
theorem LkM.s1 {s s' : gS} {n : Nat} {l th gr : Nat → Nat} {lick : Option Nat} (L : LkM s n l th gr lick) (e : s'.1 = s.1) : LkM s' n l th gr lick := by unfold LkM at *; rw [e]; exact L
/-- a row of longs -/
def Rl (s : gS) (k : Nat) (P : Nat → Nat) : Prop := ∀ q, q < 40 → s.2 k q = lN (P q)
theorem Rl.up {s : gS} {k j v : Nat} {P : Nat → Nat} (R : Rl s k P) : Rl (g_sl s k j (lN v)) k (updN P j v) := fun q hq => by
  rw [sl2]
  unfold updN
  by_cases e : q = j
  · rw [if_pos ⟨rfl, e⟩, if_pos e]
  · rw [if_neg (fun z => e z.2), if_neg e]; exact R q hq
theorem Rl.sl {s : gS} {k k' j : Nat} {v : Int64} {P : Nat → Nat} (R : Rl s k P) (h : k ≠ k') : Rl (g_sl s k' j v) k P := fun q hq => by rw [slr h]; exact R q hq
theorem lN_div {p f a : Nat} (hp : p ≤ 1000000000) (hf : f ≤ 201) (h0 : 0 < a) (ha : a ≤ 1005) : lN p * (nI f).toInt64 / (nI a).toInt64 = lN (p * f / a) := by
  have : p * f ≤ 1000000000 * 201 := Nat.mul_le_mul hp hf
  rw [nI_l (by omega), nI_l (by omega), lN_mul, pk_lDiv (by omega) h0 (by omega)]
theorem toL_ne0 {a : Nat} (h0 : 0 < a) (ha : a < 2 ^ 31) : ¬ (nI a).toInt64 = 0 := by
  rw [nI_l ha, c64_0, pk_lEQ (by omega) (by omega)]; omega
section PART
variable {s0 : gS} {w h c p : Nat} {F T : Nat → Nat}
theorem part_cl (L : Ld s0 14 w h) (V : Vv s0 w h F) (hF : ∀ t, t < w * h → 1 ≤ F t ∧ F t ≤ 201) (hc : c < w * h) (hp : s0.2 36 c = lN p) (hp2 : p ≤ 1000000000) {k : Int64 → Int32 → gS → gR} : ∀ (n i z : Nat) (A : Nat → Nat) (s : gS), i < (wayL w h c).length → (wayL w h c).length - 1 - i < n → S2 [37] s0 s → Rl s 37 A → dst F (sumL F (wayL w h c)) p ((wayL w h c).drop i) z A = T → p * sumL F ((wayL w h c).drop i) ≤ z * sumL F (wayL w h c) →
    ∃ (z' : Nat) (A' : Nat → Nat) (s' : gS), S2 [37] s0 s' ∧ Rl s' 37 A' ∧ dst F (sumL F (wayL w h c)) p ((wayL w h c).drop ((wayL w h c).length - 1)) z' A' = T ∧ f_X1_partFrom_36 (nI c) (nI (sumL F (wayL w h c))) (nI ((wayL w h c).length - 1)) k n (lN z) (nI i) s = k (lN z') (nI ((wayL w h c).length - 1)) s' := by
  intro n
  induction n with
  | zero => intro i z A s _ h2; omega
  | succ n ih =>
    intro i z A s h1 h2 hS hR hT hz
    have hn := L.1.n
    obtain ⟨l1, l2, l3⟩ := way_len L.1 hc
    obtain ⟨p1, p2⟩ := all_pos L.1 hc hF
    have L' := L.s1 hS.1
    rw [f_X1_partFrom_36.eq_2]
    by_cases hi : (wayL w h c).length - 1 ≤ i
    · have e : i = (wayL w h c).length - 1 := by omega
      subst e
      rw [if_pos ((nI_leI (by omega) (by omega)).mpr (Nat.le_refl _))]
      exact ⟨z, A, s, hS, hR, hT, rfl⟩
    · rw [if_neg (by rw [nI_leI (by omega) (by omega)]; omega), wayFrom_in L' hc (by omega), gb_i]
      have hlen : i < (wayL w h c).length := h1
      rw [dst_len (by omega)] at hT
      have hdrop : (wayL w h c).drop i = (wayL w h c)[i] :: (wayL w h c).drop (i + 1) := List.drop_eq_getElem_cons hlen
      rw [hdrop] at hz
      have hf : (wayL w h c)[i]? = some (wayL w h c)[i] := List.getElem?_eq_getElem hlen
      generalize (wayL w h c)[i] = t at hf hT hz
      have hmem : t ∈ wayL w h c := List.mem_of_getElem? hf
      have ht := l3 t hmem
      obtain ⟨z1, z2⟩ := dst_ok p1 hz
      have e36 : s.2 36 = s0.2 36 := hS.2 36 (by simp)
      have e34 : s.1 34 t = nI (F t) := by rw [hS.1]; exact (V.1 t ht).1
      rw [hf, show oI (some t) = nI t from rfl, has_in L' ht, gb_i, if_neg (by decide), g_ixn (by omega) (by omega), g_ixn (by omega) (by omega), if_neg (toL_ne0 p1 (by omega)), nI_clamp (by omega), nI_clamp (by omega), e36, hp, e34, lN_div hp2 (hF t ht).2 p1 p2]
      simp only [g_letl, g_let]
      rw [g_ixn (by omega) (by omega), g_ixn (by omega) (by omega), hR t (by omega), lN_add, lN_sub z1, nI_1]
      exact ih (i + 1) _ _ _ (by omega) (by omega) (hS.tr (S2.sl (by simp))) hR.up hT z2
theorem part_c {s : gS} {A : Nat → Nat} (L : Ld s 14 w h) (V : Vv s w h F) (hF : ∀ t, t < w * h → 1 ≤ F t ∧ F t ≤ 201) (hc : c < w * h) (hp : s.2 36 c = lN p) (hp2 : p ≤ 1000000000) (hR : Rl s 37 A) : ∃ s', S2 [37] s s' ∧ Rl s' 37 (dst F (sumL F (wayL w h c)) p (wayL w h c) p A) ∧ f_X1_partFrom (nI c) s = some (none, s') := by
  have hn := L.1.n
  obtain ⟨l1, l2, l3⟩ := way_len L.1 hc
  obtain ⟨p1, p2⟩ := all_pos L.1 hc hF
  obtain ⟨e1, e2, e3, e4⟩ := L.2.2.2.2 c hc
  unfold f_X1_partFrom
  rw [g_ixn (by omega) (by omega), nI_clamp (by omega), V.2 c hc]
  simp only [g_leti, g_letl]
  rw [c32_1, if_pos ((nI_leI (by omega) (by omega)).mpr p1), g_ixn (by omega) (by omega), g_ixn (by omega) (by omega), e3, pk_sub (by omega), hp]
  obtain ⟨z', A', s', a1, a2, a3, a4⟩ := part_cl (T := dst F (sumL F (wayL w h c)) p (wayL w h c) p A) (k := fun v3_11 v6_12 s13 => (g_bind (f_X3_wayFrom 14 (nI c) (nI ((wayL w h c).length - 1)) s13) (g_ki (fun r15 s14 => (g_bind (f_X3_has 14 r15 s14) (g_ki (fun r17 s16 => (if r17 = 0 then (some (none, s16)) else (g_ix r15 40 (g_ix r15 40 (g_let (g_sl s16 37 r15.toNatClampNeg ((s16.2 37 r15.toNatClampNeg) + v3_11)) (fun s18 => (some (none, s18)))))))))))))) L V hF hc hp hp2 g_N 0 p A s l1 (by unfold g_N; omega) S2.rf hR rfl (Nat.le_refl _)
  have hL' := L.s1 a1.1
  have hf : (wayL w h c)[(wayL w h c).length - 1]? = some ((wayL w h c)[(wayL w h c).length - 1]'(by omega)) := List.getElem?_eq_getElem (by omega)
  rw [dst_last (by omega)] at a3
  generalize ((wayL w h c)[(wayL w h c).length - 1]'(by omega)) = t at hf a3
  have ht := l3 t (List.mem_of_getElem? hf)
  refine ⟨g_sl s' 37 t (lN (A' t + z')), a1.tr (S2.sl (by simp)), by rw [← a3]; exact a2.up, ?_⟩
  refine Eq.trans a4 ?_
  rw [wayFrom_in hL' hc (by omega), gb_i, hf, show oI (some t) = nI t from rfl, has_in hL' ht, gb_i, if_neg (by decide), g_ixn (by omega) (by omega), g_ixn (by omega) (by omega), nI_clamp (by omega), a2 t (by omega), lN_add]
  rfl
end PART
