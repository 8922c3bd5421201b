/-! A day -/
def nx (sd : Nat) : Nat := (sd * 1103515245 + 12345) % 2 ^ 31
theorem nx_lt (sd : Nat) : nx sd < 2 ^ 31 := Nat.mod_lt _ (by omega)
theorem andl {n : Nat} (h : n < 2 ^ 63) : lN n &&& (2147483647 : Int64) = lN (n % 2 ^ 31) := by
  apply Int64.toBitVec_inj.mp
  apply BitVec.eq_of_toNat_eq
  rw [Int64.toBitVec_and, BitVec.toNat_and, show (2147483647 : Int64).toBitVec.toNat = 2 ^ 31 - 1 by decide, Nat.and_two_pow_sub_one_eq_mod]
  show (BitVec.ofNat 64 n).toNat % 2 ^ 31 = (BitVec.ofNat 64 _).toNat
  rw [BitVec.toNat_ofNat, BitVec.toNat_ofNat]
  omega
theorem draw_c {c : gS} {sd T : Nat} (h : c.1 22 10 = nI sd) (hs : sd < 2 ^ 31) (hT : 0 < T) (hT2 : T < 2 ^ 31) : f_X4_draw 22 (nI T) c = some (some (.int (nI (nx sd / 65536 % T))), g_si c 22 10 (nI (nx sd))) := by
  unfold f_X4_draw
  simp only [g_letl, g_let]
  rw [h, nI_l hs, show (1103515245 : Int64) = lN 1103515245 from rfl, show (12345 : Int64) = lN 12345 from rfl, lN_mul, lN_add, andl (by omega), lN_i, si_eq]
  have e1 : ¬ nI T ≤ 0 := by rw [c32_0, nI_leI (by omega) (by omega)]; omega
  have e2 : ¬ nI T = 0 := by rw [c32_0, nI_eq (by omega) (by omega)]; omega
  have e3 := nx_lt sd
  rw [if_neg e1, if_neg e2, show (65536 : Int32) = nI 65536 from rfl, pk_div (Nat.mod_lt _ (by omega)) (by omega) (by omega), remN (by unfold nx at e3; omega) hT hT2]
  rfl
theorem draw_m {m : gS} {sd T : Nat} (h : m.1 1 87 = nI sd) (hs : sd < 2 ^ 31) (hT : 0 < T) (hT2 : T < 2 ^ 31) : f_X10_draw (nI T) m = some (some (.int (nI (nx sd / 65536 % T))), g_si m 1 87 (nI (nx sd))) := by
  unfold f_X10_draw
  simp only [g_let]
  rw [show (87 : Int32) = nI 87 from rfl, m82 (by omega), m82 (by omega), m82c (by omega), h, nI_l hs, show (1103515245 : Int64) = lN 1103515245 from rfl, show (12345 : Int64) = lN 12345 from rfl, show (2147483648 : Int64) = lN 2147483648 from rfl, lN_mul, lN_add, remlN (by omega) (by omega) (by omega), lN_i, m82 (by omega), si_eq]
  have e2 : ¬ nI T = 0 := by rw [c32_0, nI_eq (by omega) (by omega)]; omega
  have e3 := nx_lt sd
  rw [if_neg e2, show (65536 : Int32) = nI 65536 from rfl, pk_div (Nat.mod_lt _ (by omega)) (by omega) (by omega), remN (by unfold nx at e3; omega) hT hT2]
  rfl
theorem dropc (L : List Nat) (i : Nat) : (L[i]? = none ∧ L.drop i = [] ∧ L.drop (i + 1) = []) ∨ ∃ t, t ∈ L ∧ L[i]? = some t ∧ L.drop i = t :: L.drop (i + 1) := by
  by_cases h : i < L.length
  · exact Or.inr ⟨L[i], List.getElem_mem h, List.getElem?_eq_getElem h, List.drop_eq_getElem_cons h⟩
  · exact Or.inl ⟨List.getElem?_eq_none (by omega), List.drop_eq_nil_of_le (by omega), List.drop_eq_nil_of_le (by omega)⟩
def pk (F : Nat → Nat) : List Nat → Nat → Option Nat
  | [], _ => none
  | t :: r, x => if x < F t then some t else pk F r (x - F t)
theorem pk_some {F : Nat → Nat} : ∀ {l : List Nat} {x : Nat}, x < sumL F l → ∃ t, t ∈ l ∧ pk F l x = some t
  | [], x, h => absurd h (by simp [sumL])
  | t :: r, x, h => by
    by_cases e : x < F t
    · exact ⟨t, by simp, by simp [pk, e]⟩
    · have h2 : x - F t < sumL F r := by simp only [sumL] at h; omega
      obtain ⟨u, h3, h4⟩ := pk_some h2
      exact ⟨u, by simp [h3], by simp [pk, e, h4]⟩
section DAY
variable {w h hr law p : Nat} {l th ti gr : Nat → Nat} {lick wk : Option Nat}
theorem likNo {c : gS} : f_X4_likingNow 22 (-1) c = some (some (.int 0), c) := by
  unfold f_X4_likingNow
  rw [has_no, gb_i, i00]
theorem cbd_4 {c : gS} (C : CX c w h hr law l th ti gr lick wk) (hp : p < w * h) {T : Nat} (hT : T < 2 ^ 30) {k : Int32 → Int32 → gS → gR} : ∀ (n i A : Nat), i ≤ 5 → 5 - i < n → A + sumL (lkF l th gr lick) ((wayL w h p).drop i) = T → f_X4_cellByDraw_4 22 (nI p) k n (nI A) (nI i) c = k (nI T) (nI 5) c := by
  have hlen := way_len C.1.1 hp
  intro n
  induction n with
  | zero => intro i A _ h2; omega
  | succ n ih =>
    intro i A h1 h2 h3
    have hn := C.1.1.n
    rw [f_X4_cellByDraw_4.eq_2, c32_5]
    by_cases hi : 5 ≤ i
    · have e : i = 5 := by omega
      subst e
      rw [List.drop_eq_nil_of_le (by omega)] at h3
      simp only [sumL, Nat.add_zero] at h3
      rw [if_pos ((nI_leI (by omega) (by omega)).mpr (Nat.le_refl _)), h3]
    · rw [if_neg (by rw [nI_leI (by omega) (by omega)]; omega), wayFrom_in C.1 hp (by omega), gb_i]
      simp only [g_leti]
      rcases dropc (wayL w h p) i with ⟨e1, e2, e3⟩ | ⟨t, ht, e1, e2⟩
      · rw [e1, show oI none = -1 from rfl, likNo, gb_i, c32_0, nI_add, nI_1]
        exact ih (i + 1) _ (by omega) (by omega) (by rw [e3]; rw [e2] at h3; exact h3)
      · rw [e1, show oI (some t) = nI t from rfl, likNow C (hlen.2.2 t ht), gb_i, nI_add, nI_1]
        exact ih (i + 1) _ (by omega) (by omega) (by rw [e2] at h3; simp only [sumL] at h3; omega)
theorem cbd_40 {c : gS} {t : Nat} (C : CX c w h hr law l th ti gr lick wk) (hp : p < w * h) {k : Int32 → Int32 → gS → gR} : ∀ (n i x : Nat), i ≤ 5 → 5 - i < n → x < 2 ^ 30 → pk (lkF l th gr lick) ((wayL w h p).drop i) x = some t → f_X4_cellByDraw_40 22 (nI p) k n (nI x) (nI i) c = some (some (.int (nI t)), c) := by
  have hlen := way_len C.1.1 hp
  intro n
  induction n with
  | zero => intro i x _ h2; omega
  | succ n ih =>
    intro i x h1 h2 hx h3
    have hn := C.1.1.n
    rcases dropc (wayL w h p) i with ⟨e1, e2, e3⟩ | ⟨u, hu, e1, e2⟩
    · rw [e2] at h3; cases h3
    · have hi : i < 5 := by
        by_cases q : i < 5
        · exact q
        · rw [List.drop_eq_nil_of_le (by omega)] at e2; cases e2
      have hF := (C.F lick u (hlen.2.2 u hu)).2
      rw [f_X4_cellByDraw_40.eq_2, c32_5, if_neg (by rw [nI_leI (by omega) (by omega)]; omega), wayFrom_in C.1 hp (by omega), gb_i, e1, show oI (some u) = nI u from rfl, likNow C (hlen.2.2 u hu), gb_i]
      simp only [g_leti]
      rw [e2] at h3
      simp only [pk] at h3
      by_cases e : x < lkF l th gr lick u
      · rw [if_pos e] at h3
        cases h3
        rw [if_neg (by rw [sub_ge0 hx (by omega)]; omega)]
      · rw [if_neg e] at h3
        rw [if_pos (by rw [sub_ge0 hx (by omega)]; omega), pk_sub (by omega), nI_1]
        exact ih (i + 1) _ (by omega) (by omega) (by omega) h3
theorem wayFr_s {q s : Nat} (hs : s < 5) : wayFr w h q (5 - s) = match wayS w h q s with | none => wayFr w h q (5 - (s + 1)) | some t => t :: wayFr w h q (5 - (s + 1)) := by
  obtain ⟨r, hr⟩ : ∃ r, 5 - s = r + 1 := ⟨4 - s, by omega⟩
  rw [hr, show 5 - (s + 1) = r by omega, wayFr, show 4 - r = s by omega]
  cases wayS w h q s <;> rfl
theorem goH {m : gS} {x t : Nat} (M : Md m w h) (K : LkM m (w * h) l th gr lick) (hp : p < w * h) (hx : x < sumL (lkF l th gr lick) (wayL w h p)) {k : Int32 → Int32 → Int32 → gS → gR} : ∀ (n s : Nat), s < 5 → 5 - s < n → lsS (lkF l th gr lick) w h p s ≤ x → pk (lkF l th gr lick) (wayFr w h p (5 - s)) (x - lsS (lkF l th gr lick) w h p s) = some t →
    ∃ a b, f_X10_goHour_28 (nI p) (nI x) k n (nI s) (oI (wayS w h p s)) (nI (lsS (lkF l th gr lick) w h p (s + 1))) m = k a (nI t) b m := by
  intro n
  induction n with
  | zero => intro s _ h2; omega
  | succ n ih =>
    intro s h1 h2 h3 h4
    have hn := M.1.n
    have hF : ∀ u, u < w * h → lkF l th gr lick u ≤ 201 := fun u hu => (lkF_le (fun j hj => (K.1 j hj).2) (K.2.2.1 u hu).2).2
    have b1 := lsS_le hF M.1 hp (s + 1) (by omega)
    have b5 := lsS_le hF M.1 hp 5 (by omega)
    rw [lsS_5] at b5
    have hs1 : lsS (lkF l th gr lick) w h p (s + 1) = lsS (lkF l th gr lick) w h p s + (match wayS w h p s with | none => 0 | some u => lkF l th gr lick u) := rfl
    rw [wayFr_s h1] at h4
    rw [f_X10_goHour_28.eq_2]
    by_cases e : x < lsS (lkF l th gr lick) w h p (s + 1)
    · rw [if_pos ((nI_ltI (by omega) (by omega)).mpr e)]
      cases hw : wayS w h p s with
      | none => rw [hw] at hs1; simp only at hs1; omega
      | some u =>
        rw [hw] at hs1 h4
        simp only [pk] at hs1 h4
        rw [if_pos (by omega)] at h4
        cases h4
        exact ⟨_, _, rfl⟩
    · rw [if_neg (by rw [nI_ltI (by omega) (by omega)]; exact e)]
      have hs5 : s + 1 < 5 := by
        by_cases q : s + 1 < 5
        · exact q
        · have : s + 1 = 5 := by omega
          rw [this, lsS_5] at e; omega
      have h5 : pk (lkF l th gr lick) (wayFr w h p (5 - (s + 1))) (x - lsS (lkF l th gr lick) w h p (s + 1)) = some t := by
        cases hw : wayS w h p s with
        | none => rw [hw] at hs1 h4; simp only [Nat.add_zero] at hs1 h4; rw [hs1]; exact h4
        | some u =>
          rw [hw] at hs1 h4
          simp only [pk] at hs1 h4
          rw [if_neg (by omega)] at h4
          rw [hs1, show x - (lsS (lkF l th gr lick) w h p s + lkF l th gr lick u) = x - lsS (lkF l th gr lick) w h p s - lkF l th gr lick u by omega]
          exact h4
      have hih := ih (s + 1) hs5 (by omega) (by omega) h5
      have hs2 : lsS (lkF l th gr lick) w h p (s + 1 + 1) = lsS (lkF l th gr lick) w h p (s + 1) + (match wayS w h p (s + 1) with | none => 0 | some u => lkF l th gr lick u) := rfl
      rw [nI_1, way_m M hp hs5, gb_i]
      simp only [g_leti]
      cases hw : wayS w h p (s + 1) with
      | none =>
        rw [hw] at hs2 hih
        simp only [Nat.add_zero] at hs2
        rw [if_pos (show oI none = -1 from rfl), c32_0, nI_add, Nat.add_zero, ← hs2]
        exact hih
      | some u =>
        rw [hw] at hs2 hih
        simp only at hs2
        have hu := wayS_lt M.1 hp hw hs5
        rw [show oI (some u) = nI u from rfl, if_neg (nI_m1 (show u < 2 ^ 31 by omega)), liking_m K hn hu, gb_i, nI_add, ← hs2]
        exact hih
theorem CX.day {c c' : gS} {gr' : Nat → Nat} {wk' : Option Nat} (C : CX c w h hr law l th ti gr lick wk) (S : Sm [22, 23] c c') (h22 : ∀ j, j ≠ 3 → j ≠ 10 → c'.1 22 j = c.1 22 j) (hg : ∀ q, q < w * h → c'.1 23 q = nI (gr' q) ∧ gr' q ≤ 18) (hw : c'.1 22 3 = oI wk') (hwb : ∀ q, wk' = some q → q < w * h) : CX c' w h hr law l th ti gr' lick wk' := by
  obtain ⟨h1, h2, h3, h4, h5, h6, h7, h8, h9, h10, h11, h12⟩ := C
  have e : ∀ k, k ≠ 22 → k ≠ 23 → c'.1 k = c.1 k := fun k a b => (S k (by simp; omega)).1
  refine ⟨h1.congr (fun k a b => e k (by omega) (by omega)), h2.congr (fun k a b => e k (by omega) (by omega)), ?_, hg, ?_, h6, ?_, h8, ?_, h10, hw, hwb⟩
  · rw [e 19 (by omega) (by omega)]; exact h3
  · rw [e 14 (by omega) (by omega)]; exact h5
  · rw [h22 9 (by omega) (by omega)]; exact h7
  · rw [h22 5 (by omega) (by omega)]; exact h9
theorem LkM.day {m m' : gS} {n : Nat} {gr' : Nat → Nat} (K : LkM m n l th gr lick) (hn : n ≤ 40) (e : ∀ k, k ≠ 1 → m'.1 k = m.1 k) (e1 : ∀ j, n ≤ j → j ≠ 87 → m'.1 1 j = m.1 1 j) (hg : ∀ q, q < n → m'.1 1 q = nI (gr' q) ∧ gr' q ≤ 18) : LkM m' n l th gr' lick := by
  obtain ⟨h1, h2, h3, h4, h5⟩ := K
  refine ⟨?_, ?_, hg, ?_, h5⟩
  · rw [e 6 (by decide)]; exact h1
  · rw [e 4 (by decide)]; exact h2
  · rw [e1 82 (by omega) (by decide)]; exact h4
/-- an hour of a day in both -/
theorem hour_s {c m : gS} {sd : Nat} (C : CX c w h hr law l th ti gr lick (some p)) (M : Md m w h) (K : LkM m (w * h) l th gr lick) (s1 : c.1 22 10 = nI sd) (s2 : m.1 1 87 = nI sd) (hs : sd < 2 ^ 31) :
    ∃ (t sd' : Nat) (gr' : Nat → Nat) (c' m' : gS), CX c' w h hr law l th ti gr' lick (some t) ∧ LkM m' (w * h) l th gr' lick ∧ (Sm [22, 23] c c' ∧ ∀ j, j ≠ 3 → j ≠ 10 → c'.1 22 j = c.1 22 j) ∧ ((∀ k, k ≠ 1 → m'.1 k = m.1 k) ∧ ∀ j, w * h ≤ j → j ≠ 87 → m'.1 1 j = m.1 1 j) ∧ (c'.1 22 10 = nI sd' ∧ m'.1 1 87 = nI sd' ∧ sd' < 2 ^ 31) ∧
      (∀ Kc : gS → gR, (g_bind (f_X4_cellByDraw 22 (c.1 22 3) c) (g_ki (fun r2 s1 => (g_let (g_si s1 22 3 r2) (fun s3 => (g_bind (f_X4_eatAt 22 (s3.1 22 3) s3) (g_kv (fun s4 => Kc s4)))))))) = Kc c') ∧ f_X10_goHour (nI p) m = some (some (.int (nI t)), m') := by
  have hn := M.1.n
  have hp : p < w * h := C.2.2.2.2.2.2.2.2.2.2.2 p rfl
  have hlen := way_len M.1 hp
  have hF : ∀ u, u < w * h → lkF l th gr lick u ≤ 201 := fun u hu => (C.F lick u hu).2
  have hSb := sumL_le (fun u hu => hF u (hlen.2.2 u hu))
  have hS0 : 0 < sumL (lkF l th gr lick) (wayL w h p) := by
    cases hl : wayL w h p with
    | nil => rw [hl] at hlen; simp at hlen
    | cons t r =>
      have := (C.F lick t (hlen.2.2 t (by rw [hl]; simp))).1
      simp only [sumL]; omega
  have hS1 : sumL (lkF l th gr lick) (wayL w h p) < 2 ^ 30 := by
    have : 201 * (wayL w h p).length ≤ 201 * 5 := Nat.mul_le_mul (Nat.le_refl _) hlen.2.1
    omega
  have hx := Nat.mod_lt (nx sd / 65536) hS0
  obtain ⟨t, ht, hpk⟩ := pk_some hx
  have htn := hlen.2.2 t ht
  have hg := C.2.2.2.1 t htn
  have hgm := K.2.2.1 t htn
  -- the class
  have D1 : Sm [22, 23] c (g_si c 22 10 (nI (nx sd))) := Sm.si (by simp)
  have Cd : CX (g_si c 22 10 (nI (nx sd))) w h hr law l th ti gr lick (some p) := C.day D1 (fun j a b => si_nj b) (fun q hq => by rw [sir (by decide)]; exact C.2.2.2.1 q hq) (by rw [si_nj (by decide)]; exact C.2.2.2.2.2.2.2.2.2.2.1) (fun q hq => C.2.2.2.2.2.2.2.2.2.2.2 q hq)
  have c1 : f_X4_cellByDraw 22 (nI p) c = some (some (.int (nI t)), g_si c 22 10 (nI (nx sd))) := by
    unfold f_X4_cellByDraw
    have z := cbd_4 (k := fun v2_6 v3_7 s8 => (g_bind (f_X4_draw 22 v2_6 s8) (g_ki (fun r10 s9 => (f_X4_cellByDraw_40 22 (nI p) (fun v3_16 v4_17 s18 => (some (some (.int (nI p)), s18))) g_N r10 (0 : Int32) s9))))) C hp hS1 g_N 0 0 (by omega) (by unfold g_N; omega) (by rw [List.drop_zero, Nat.zero_add])
    rw [← c32_0] at z
    rw [z, draw_c s1 hs hS0 (by omega), gb_i]
    have z2 := cbd_40 (k := fun v3_16 v4_17 s18 => (some (some (.int (nI p)), s18))) Cd hp g_N 0 (nx sd / 65536 % sumL (lkF l th gr lick) (wayL w h p)) (by omega) (by unfold g_N; omega) (by omega) (by rw [List.drop_zero]; exact hpk)
    rw [← c32_0] at z2
    exact z2
  -- the reference
  have m1 : f_X10_goHour (nI p) m = some (some (.int (nI t)), g_si (g_si m 1 87 (nI (nx sd))) 1 t (nI (gr t - 1))) := by
    have Kd : LkM (g_si m 1 87 (nI (nx sd))) (w * h) l th gr lick := K.day hn (fun k hk => sir hk) (fun j a b => si_nj b) (fun q hq => by rw [si_nj (by omega)]; exact K.2.2.1 q hq)
    have Md' : Md (g_si m 1 87 (nI (nx sd))) w h := by have := M; unfold Md at *; rw [sir (by decide)]; exact this
    unfold f_X10_goHour
    rw [likings_m M K hp, gb_i, draw_m s2 hs hS0 (by omega), gb_i, c32_0, way_m Md' hp (by omega), gb_i, show oI (wayS w h p 0) = nI p from rfl, liking_m Kd hn hp, gb_i]
    obtain ⟨a, b, z⟩ := goH (k := fun v3_15 v4_16 v5_17 s18 => (g_ix (nI 0 + v4_16) 88 (g_ix (nI 0 + v4_16) 88 (if (s18.1 1 (nI 0 + v4_16).toNatClampNeg) ≤ nI 0 then (g_ix (nI 0 + v4_16) 88 (g_let (g_si s18 1 (nI 0 + v4_16).toNatClampNeg ((s18.1 1 (nI 0 + v4_16).toNatClampNeg) - nI 0)) (fun s19 => (some (some (.int v4_16), s19))))) else (g_ix (nI 0 + v4_16) 88 (g_let (g_si s18 1 (nI 0 + v4_16).toNatClampNeg ((s18.1 1 (nI 0 + v4_16).toNatClampNeg) - (1 : Int32))) (fun s20 => (some (some (.int v4_16), s20)))))))))
      Md' Kd hp hx g_N 0 (by omega) (by unfold g_N; omega) (Nat.zero_le _) (by rw [wayFr_5, show lsS (lkF l th gr lick) w h p 0 = 0 from rfl, Nat.sub_zero]; exact hpk)
    rw [show lsS (lkF l th gr lick) w h p (0 + 1) = 0 + lkF l th gr lick p from rfl, Nat.zero_add, show oI (wayS w h p 0) = nI p from rfl] at z
    rw [z, nI_add, Nat.zero_add, m82 (by omega), m82 (by omega), nI_clamp (by omega), si_nj (b := t) (by omega), hgm.1]
    simp only [g_let]
    by_cases e : gr t = 0
    · rw [e, if_pos (by decide), m82 (by omega)]
      rfl
    · rw [if_neg (by rw [nI_leI (by omega) (by omega)]; omega), m82 (by omega), c32_1, pk_sub (by omega)]
  -- eaten
  have c2 : ∃ c', Sm [22, 23] c c' ∧ (∀ j, j ≠ 3 → j ≠ 10 → c'.1 22 j = c.1 22 j) ∧ c'.1 22 3 = nI t ∧ c'.1 22 10 = nI (nx sd) ∧ (∀ q, q < w * h → c'.1 23 q = nI (updN gr t (gr t - 1) q)) ∧ f_X4_eatAt 22 (nI t) (g_si (g_si c 22 10 (nI (nx sd))) 22 3 (nI t)) = some (none, c') := by
    have Lt : Ld (g_si (g_si c 22 10 (nI (nx sd))) 22 3 (nI t)) 14 w h := C.1.congr (fun k a b => by rw [sir (by omega), sir (by omega)])
    unfold f_X4_eatAt
    rw [has_in Lt htn, gb_i, i10, g_ixn (by omega) (by omega), nI_clamp (by omega), show (22 + 1 : Nat) = 23 from rfl, sir (a := 23) (k := 22) (by decide), sir (a := 23) (k := 22) (by decide), hg.1]
    by_cases e : gr t = 0
    · rw [e, if_pos (by decide)]
      refine ⟨_, D1.tr (Sm.si (by simp)), fun j a b => by rw [si_nj a, si_nj b], by rw [si_eq], by rw [si_nj (by decide), si_eq], fun q hq => ?_, rfl⟩
      rw [sir (by decide), sir (by decide), (C.2.2.2.1 q hq).1]
      unfold updN
      by_cases eq : q = t
      · rw [if_pos eq, eq, e]
      · rw [if_neg eq]
    · rw [if_neg (by rw [c32_0, nI_leI (by omega) (by omega)]; omega), g_ixn (by omega) (by omega), g_ixn (by omega) (by omega), c32_1, pk_sub (by omega)]
      simp only [g_let]
      refine ⟨_, (D1.tr (Sm.si (by simp))).tr (Sm.si (by simp)), fun j a b => by rw [sir (by decide), si_nj a, si_nj b], by rw [sir (by decide), si_eq], by rw [sir (by decide), si_nj (by decide), si_eq], fun q hq => ?_, rfl⟩
      unfold updN
      by_cases eq : q = t
      · rw [if_pos eq, eq, si_eq]
      · rw [if_neg eq, si_nj eq, sir (by decide), sir (by decide), (C.2.2.2.1 q hq).1]
  obtain ⟨c', f1, f2, f3, f4, f5, f6⟩ := c2
  have hgr' : ∀ q, q < w * h → updN gr t (gr t - 1) q ≤ 18 := fun q hq => by
    unfold updN
    split
    · omega
    · exact (C.2.2.2.1 q hq).2
  have N1 : ∀ k, k ≠ 1 → (g_si (g_si m 1 87 (nI (nx sd))) 1 t (nI (gr t - 1))).1 k = m.1 k := fun k hk => (sir hk).trans (sir hk)
  have N2 : ∀ j, w * h ≤ j → j ≠ 87 → (g_si (g_si m 1 87 (nI (nx sd))) 1 t (nI (gr t - 1))).1 1 j = m.1 1 j := fun j a b => by rw [si_nj (by omega), si_nj b]
  refine ⟨t, nx sd, updN gr t (gr t - 1), c', _, C.day f1 f2 (fun q hq => ⟨f5 q hq, hgr' q hq⟩) f3 (fun q hq => by cases hq; exact htn), K.day hn N1 N2 (fun q hq => ⟨?_, hgr' q hq⟩), ⟨f1, f2⟩, ⟨N1, N2⟩, ⟨f4, by rw [si_nj (by omega), si_eq], nx_lt sd⟩, fun Kc => ?_, m1⟩
  · unfold updN
    by_cases eq : q = t
    · rw [if_pos eq, eq, si_eq]
    · rw [if_neg eq, si_nj eq, si_nj (by omega), (K.2.2.1 q hq).1]
  · rw [show c.1 22 3 = nI p from C.2.2.2.2.2.2.2.2.2.2.1, c1, gb_i]
    simp only [g_let]
    rw [si_eq, f6, gb_v]
end DAY
