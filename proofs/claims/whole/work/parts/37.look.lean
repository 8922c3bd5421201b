/-! The reference's look; the numbers -/
theorem isSm_i (v : Int32) (s : gS) : f_X10_isSmall v s = some (some (.int (if Psm v then 1 else 0)), s) := by
  unfold f_X10_isSmall
  rw [show (97 : Int64) = lN 97 from rfl, show (122 : Int64) = lN 122 from rfl, in_i v 97 122 (by omega) (by omega), gb_i]
  by_cases h : nI 97 ≤ v ∧ v ≤ nI 122
  · rw [if_pos h, if_pos (show Psm v from h)]; rfl
  · rw [if_neg h, if_neg (show ¬ Psm v from h)]; rfl
theorem isFg_i (v : Int32) (s : gS) : f_X10_isFigure v s = some (some (.int (if Pfg v then 1 else 0)), s) := by
  unfold f_X10_isFigure
  rw [show (48 : Int64) = lN 48 from rfl, show (57 : Int64) = lN 57 from rfl, in_i v 48 57 (by omega) (by omega), gb_i]
  by_cases h : nI 48 ≤ v ∧ v ≤ nI 57
  · rw [if_pos h, if_pos (show Pfg v from h)]; rfl
  · rw [if_neg h, if_neg (show ¬ Pfg v from h)]; rfl
def vl (T : Nat → Int32) (st : Nat) : Nat → Int32
  | 0 => 0
  | i + 1 => 10 * vl T st i + T (st + i) - 48
section LOOK
variable {T : Nat → Int32} {len : Nat}
theorem lk_5 {q : Nat} {k : gS → gR} : ∀ (n p : Nat) (m : gS), q - p < n → TM m T len → m.1 0 18 = nI p → Rn Psp T len p q → f_X10_look_5 k n m = k (g_si m 0 18 (nI q)) := by
  intro n
  induction n with
  | zero => intro p m h1; omega
  | succ n ih =>
    intro p m h1 h2 h3 h4
    have hl := h2.1
    have hq := h4.1
    rw [f_X10_look_5.eq_2, h2.2.1, h3]
    by_cases e : len ≤ p
    · rw [if_pos ((nI_leI (by have := h4.2.1; omega) (by have := h4.2.1; omega)).mpr e), h4.en e, g_si_id h3]
    · rw [if_neg (by rw [nI_leI (by omega) (by omega)]; exact e), g_ixn (by omega) (by omega), nI_clamp (by omega), h2.2.2 p (by omega)]
      rcases h4.st (by omega) with ⟨e2, e3, e4⟩ | ⟨e2, e3⟩
      · rw [if_pos e2, gl_s, nI_1, ih (p + 1) (g_si m 0 18 (nI (p + 1))) (by omega) (h2.si (by decide)) (by rw [si_eq]) e4, g_si_si]
      · rw [if_neg e2, e3, g_si_id h3]
theorem lk_136 {P : Int32 → Prop} {kd st en : Nat} (hk : (kd = 1 ∧ P = Psm) ∨ (kd = 2 ∧ P = Pfg)) {k : Int32 → gS → gR} : ∀ (n i : Nat) (m : gS), en - (st + i) + 1 < n → TM m T len → m.1 0 18 = nI st → m.1 0 19 = nI i → m.1 0 20 = nI kd → Rn P T len (st + i) en → ∃ v, f_X10_look_136 k n 1 m = k v (g_si m 0 19 (nI (en - st))) := by
  intro n
  induction n with
  | zero => intro i m h1; omega
  | succ n ih =>
    intro i m h1 h2 h3 h5 h6 h4
    have hl := h2.1
    have hq := h4.1
    have hq2 := h4.2.1
    rw [f_X10_look_136.eq_2, if_neg (by decide), h2.2.1, h3, h5, nI_add]
    by_cases e : len ≤ st + i
    · rw [if_pos ((nI_leI (by omega) (by omega)).mpr e), h4.en e, show st + i - st = i by omega, g_si_id h5]
      exact ⟨_, rfl⟩
    · rw [if_neg (by rw [nI_leI (by omega) (by omega)]; exact e), g_ixn (by omega) (by omega), nI_clamp (by omega), gl_i, h2.2.2 (st + i) (by omega), h6]
      obtain ⟨n0, rfl⟩ : ∃ n0, n = n0 + 1 := ⟨n - 1, by omega⟩
      rcases hk with ⟨hk, rfl⟩ | ⟨hk, rfl⟩
      · subst hk
        rw [if_pos (show nI 1 = 1 from rfl), isSm_i, gb_i]
        rcases h4.st (by omega) with ⟨e2, e3, e4⟩ | ⟨e2, e3⟩
        · rw [if_pos e2, if_neg (by decide), gl_s, h5, nI_1]
          obtain ⟨v, hv⟩ := ih (i + 1) (g_si m 0 19 (nI (i + 1))) (by omega) (h2.si (by decide)) (by rw [si_nj (by decide), h3]) (by rw [si_eq]) (by rw [si_nj (by decide), h6]) e4
          rw [hv, g_si_si]
          exact ⟨v, rfl⟩
        · rw [if_neg e2, if_pos rfl, gl_s, h5, nI_a0, f_X10_look_136.eq_2, if_pos rfl, e3, show st + i - st = i by omega]
          exact ⟨_, rfl⟩
      · subst hk
        rw [if_neg (show ¬ nI 2 = 1 by decide), isFg_i, gb_i]
        rcases h4.st (by omega) with ⟨e2, e3, e4⟩ | ⟨e2, e3⟩
        · rw [if_pos e2, if_neg (by decide), gl_s, h5, nI_1]
          obtain ⟨v, hv⟩ := ih (i + 1) (g_si m 0 19 (nI (i + 1))) (by omega) (h2.si (by decide)) (by rw [si_nj (by decide), h3]) (by rw [si_eq]) (by rw [si_nj (by decide), h6]) e4
          rw [hv, g_si_si]
          exact ⟨v, rfl⟩
        · rw [if_neg e2, if_pos rfl, gl_s, h5, nI_a0, f_X10_look_136.eq_2, if_pos rfl, e3, show st + i - st = i by omega]
          exact ⟨_, rfl⟩
theorem lk_218s {st L : Nat} (hL : L ≤ 3) (hs : st + L ≤ len) {k : Int32 → gS → gR} : ∀ (n i : Nat) (m : gS), i ≤ L → L - i < n → TM m T len → m.1 0 18 = nI st → m.1 0 19 = nI L → m.1 0 20 = nI 2 → m.1 0 21 = vl T st i → f_X10_look_218 k n (nI i) m = k (nI L) (g_si m 0 21 (vl T st L)) := by
  intro n
  induction n with
  | zero => intro i m _ h1; omega
  | succ n ih =>
    intro i m h0 h1 h2 h3 h5 h6 h7
    have hl := h2.1
    rw [f_X10_look_218.eq_2, h5]
    by_cases e : L ≤ i
    · have e' : i = L := by omega
      rw [if_pos ((nI_leI (by omega) (by omega)).mpr e), e', g_si_id (by rw [h7, e'])]
    · rw [if_neg (by rw [nI_leI (by omega) (by omega)]; exact e), h6, if_pos (show nI 2 = 2 from rfl), if_pos (show nI L ≤ 3 from nI_le (b := 3) hL (by omega)), h3, nI_add, g_ixn (by omega) (by omega), nI_clamp (by omega), gl_s, nI_1, h2.2.2 (st + i) (by omega), h7]
      rw [ih (i + 1) _ (by omega) (by omega) (h2.si (by decide)) (by rw [si_nj (by decide), h3]) (by rw [si_nj (by decide), h5]) (by rw [si_nj (by decide), h6]) (by rw [si_eq]; rfl), g_si_si]
theorem lk_218l {L : Nat} (hL : 3 < L) (hs : L ≤ 500) {k : Int32 → gS → gR} : ∀ (n i : Nat) (m : gS), i ≤ L → L - i < n → m.1 0 19 = nI L → m.1 0 20 = nI 2 → (0 < i → m.1 0 21 = 1000) → f_X10_look_218 k n (nI i) m = k (nI L) (g_si m 0 21 1000) := by
  intro n
  induction n with
  | zero => intro i m _ h1; omega
  | succ n ih =>
    intro i m h0 h1 h5 h6 h7
    rw [f_X10_look_218.eq_2, h5]
    by_cases e : L ≤ i
    · have e' : i = L := by omega
      rw [if_pos ((nI_leI (by omega) (by omega)).mpr e), e', g_si_id (h7 (by omega))]
    · rw [if_neg (by rw [nI_leI (by omega) (by omega)]; exact e), h6, if_pos (show nI 2 = 2 from rfl), if_neg (show ¬ nI L ≤ 3 from fun z => by have := (nI_leI (b := 3) (by omega) (by omega)).mp z; omega), gl_s, nI_1]
      rw [ih (i + 1) _ (by omega) (by omega) (by rw [si_nj (by decide), h5]) (by rw [si_nj (by decide), h6]) (fun _ => by rw [si_eq]), g_si_si]
theorem lk_218o {L kd : Nat} (hL : 0 < L) (hs : L ≤ 500) (hk : kd ≠ 2) (hk4 : kd ≤ 4) {k : Int32 → gS → gR} {n : Nat} {m : gS} (h5 : m.1 0 19 = nI L) (h6 : m.1 0 20 = nI kd) : f_X10_look_218 k (n + 1) (nI 0) m = k (nI 0) m := by
  rw [f_X10_look_218.eq_2, h5, if_neg (by rw [nI_leI (by omega) (by omega)]; omega), h6, if_neg (show ¬ nI kd = 2 from fun z => by have := (nI_eq (b := 2) (by omega) (by omega)).mp z; omega)]
def vk (T : Nat → Int32) (st en : Nat) : Int32 := if en - st ≤ 3 then vl T st (en - st) else 1000
/-- the reference looks at the token from p on -/
def LA (m : gS) (T : Nat → Int32) (kd st en : Nat) : Prop := m.1 0 18 = nI st ∧ m.1 0 19 = nI (en - st) ∧ m.1 0 20 = nI kd ∧ (kd = 2 → m.1 0 21 = vk T st en)
theorem lk_m {m : gS} {p kd st en : Nat} (h : TM m T len) (k : Tk T len p kd st en) : ∃ m', (∀ r, r ≠ 0 → m'.1 r = m.1 r) ∧ (∀ j, j ≠ 18 → j ≠ 19 → j ≠ 20 → j ≠ 21 → m'.1 0 j = m.1 0 j) ∧ LA m' T kd st en ∧ f_X10_look (nI p) m = some (none, m') := by
  have hl := h.1
  have gN : g_N = (g_N - 1) + 1 := by unfold g_N; omega
  obtain ⟨kb1, kb2, kb3, kb4, kb5, kb6⟩ := k.b
  obtain ⟨k1, k2⟩ := k
  unfold f_X10_look
  rw [gl_s, lk_5 g_N p (g_si m 0 18 (nI p)) (by unfold g_N; omega) (h.si (by decide)) (by rw [si_eq]) k1, g_si_si, gl_s, gl_s, gl_s]
  generalize hz : g_si (g_si (g_si (g_si m 0 18 (nI st)) 0 19 0) 0 20 0) 0 21 0 = z
  have zT : TM z T len := by rw [← hz]; exact (((h.si (by decide)).si (by decide)).si (by decide)).si (by decide)
  have z18 : z.1 0 18 = nI st := by rw [← hz, si_nj (by decide), si_nj (by decide), si_nj (by decide), si_eq]
  have z19 : z.1 0 19 = 0 := by rw [← hz, si_nj (by decide), si_nj (by decide), si_eq]
  have z20 : z.1 0 20 = 0 := by rw [← hz, si_nj (by decide), si_eq]
  have z21 : z.1 0 21 = 0 := by rw [← hz, si_eq]
  have zr : ∀ r, r ≠ 0 → z.1 r = m.1 r := fun r hr => by rw [← hz, sir hr, sir hr, sir hr, sir hr]
  have zo : ∀ j, j ≠ 18 → j ≠ 19 → j ≠ 20 → j ≠ 21 → z.1 0 j = m.1 0 j := fun j a b d e => by rw [← hz, si_nj e, si_nj d, si_nj b, si_nj a]
  rw [z18, zT.2.1]
  rcases k2 with ⟨b1, b2, b3⟩ | ⟨b0, k2⟩
  · rw [if_pos (by rw [b1])]
    exact ⟨z, zr, zo, ⟨z18, by rw [z19, b3, Nat.sub_self]; rfl, by rw [z20, b2]; rfl, fun y => by omega⟩, rfl⟩
  · rw [if_neg (by rw [nI_eq (by omega) (by omega)]; omega), g_ixn (by omega) (by omega), nI_clamp (by omega), gl_i, zT.2.2 st b0, isSm_i, gb_i]
    rcases k2 with ⟨b1, b2, b3⟩ | ⟨b1, b2, b3, b4⟩ | ⟨b1, b2, b3, b4, b5⟩ | ⟨b1, b2, b3, b4, b5⟩
    · have hx := kb5 (by omega)
      have hb := b3.2.1
      have hr : Rn Psm T len (st + 1) en := by
        rcases b3.st b0 with ⟨_, _, y⟩ | ⟨y, _⟩
        · exact y
        · exact absurd b1 y
      rw [if_pos b1, if_neg (by decide), gl_s, gl_s, si_nj (b := 20) (j := 19) (by decide), si_eq, if_neg (by decide)]
      obtain ⟨v, hv⟩ := lk_136 (T := T) (len := len) (P := Psm) (kd := 1) (st := st) (en := en) (Or.inl ⟨rfl, rfl⟩) (k := fun v3_59 s60 => (f_X10_look_218  (fun v4_61 s62 => (some (none, s62))) g_N (0 : Int32) s60)) g_N 1 (g_si (g_si z 0 20 1) 0 19 1) (by unfold g_N; omega) ((zT.si (by decide)).si (by decide)) (by rw [si_nj (by decide), si_nj (by decide), z18]) (by rw [si_eq]; rfl) (by rw [si_nj (by decide), si_eq]; rfl) hr
      rw [hv, g_si_si, gN, c32_0, lk_218o (L := en - st) (kd := 1) (by omega) (by omega) (by omega) (by omega) (by rw [si_eq]) (by rw [si_nj (by decide), si_eq]; rfl)]
      exact ⟨_, fun r y => by rw [sir y, sir y, zr r y], fun j a b d e => by rw [si_nj b, si_nj d, zo j a b d e], ⟨by rw [si_nj (by decide), si_nj (by decide), z18], by rw [si_eq], by rw [si_nj (by decide), si_eq, b2]; rfl, fun y => by omega⟩, rfl⟩
    · have hx := kb5 (by omega)
      have hb := b4.2.1
      have hr : Rn Pfg T len (st + 1) en := by
        rcases b4.st b0 with ⟨_, _, y⟩ | ⟨y, _⟩
        · exact y
        · exact absurd b2 y
      rw [if_neg b1, if_pos rfl, isFg_i, gb_i, if_pos b2, if_neg (by decide), gl_s, gl_s, si_nj (b := 20) (j := 19) (by decide), si_eq, if_neg (by decide)]
      obtain ⟨v, hv⟩ := lk_136 (T := T) (len := len) (P := Pfg) (kd := 2) (st := st) (en := en) (Or.inr ⟨rfl, rfl⟩) (k := fun v3_59 s60 => (f_X10_look_218  (fun v4_61 s62 => (some (none, s62))) g_N (0 : Int32) s60)) g_N 1 (g_si (g_si z 0 20 2) 0 19 1) (by unfold g_N; omega) ((zT.si (by decide)).si (by decide)) (by rw [si_nj (by decide), si_nj (by decide), z18]) (by rw [si_eq]; rfl) (by rw [si_nj (by decide), si_eq]; rfl) hr
      rw [hv, g_si_si]
      have q18 : (g_si (g_si z 0 20 2) 0 19 (nI (en - st))).1 0 18 = nI st := by rw [si_nj (by decide), si_nj (by decide), z18]
      have q19 : (g_si (g_si z 0 20 2) 0 19 (nI (en - st))).1 0 19 = nI (en - st) := by rw [si_eq]
      have q20 : (g_si (g_si z 0 20 2) 0 19 (nI (en - st))).1 0 20 = nI 2 := by rw [si_nj (by decide), si_eq]; rfl
      have q21 : (g_si (g_si z 0 20 2) 0 19 (nI (en - st))).1 0 21 = 0 := by rw [si_nj (by decide), si_nj (by decide), z21]
      by_cases e3 : en - st ≤ 3
      · rw [c32_0, lk_218s (T := T) (len := len) (st := st) e3 (by omega) g_N 0 _ (by omega) (by unfold g_N; omega) ((zT.si (by decide)).si (by decide)) q18 q19 q20 q21]
        exact ⟨_, fun r y => by rw [sir y, sir y, sir y, zr r y], fun j a b d e => by rw [si_nj e, si_nj b, si_nj d, zo j a b d e], ⟨by rw [si_nj (by decide), q18], by rw [si_nj (by decide), q19], by rw [si_nj (by decide), q20, b3], fun _ => by rw [si_eq]; unfold vk; rw [if_pos e3]⟩, rfl⟩
      · rw [c32_0, lk_218l (by omega) (by omega) g_N 0 _ (by omega) (by unfold g_N; omega) q19 q20 (fun y => absurd y (by omega))]
        exact ⟨_, fun r y => by rw [sir y, sir y, sir y, zr r y], fun j a b d e => by rw [si_nj e, si_nj b, si_nj d, zo j a b d e], ⟨by rw [si_nj (by decide), q18], by rw [si_nj (by decide), q19], by rw [si_nj (by decide), q20, b3], fun _ => by rw [si_eq]; unfold vk; rw [if_neg e3]⟩, rfl⟩
    · rw [if_neg b1, if_pos rfl, isFg_i, gb_i, if_neg b2, if_pos rfl, if_pos b3, gl_s, gl_s, si_nj (b := 20) (j := 19) (by decide), si_eq, if_pos (by decide), gN, f_X10_look_136.eq_2, if_pos rfl, c32_0, lk_218o (L := 1) (kd := 3) (by omega) (by omega) (by omega) (by omega) (by rw [si_eq]; rfl) (by rw [si_nj (by decide), si_eq]; rfl)]
      exact ⟨_, fun r y => by rw [sir y, sir y, zr r y], fun j a b d e => by rw [si_nj b, si_nj d, zo j a b d e], ⟨by rw [si_nj (by decide), si_nj (by decide), z18], by rw [si_eq, b5, show st + 1 - st = 1 by omega]; rfl, by rw [si_nj (by decide), si_eq, b4]; rfl, fun y => by omega⟩, rfl⟩
    · rw [if_neg b1, if_pos rfl, isFg_i, gb_i, if_neg b2, if_pos rfl, if_neg b3, gl_s, gl_s, si_nj (b := 20) (j := 19) (by decide), si_eq, if_pos (by decide), gN, f_X10_look_136.eq_2, if_pos rfl, c32_0, lk_218o (L := 1) (kd := 4) (by omega) (by omega) (by omega) (by omega) (by rw [si_eq]; rfl) (by rw [si_nj (by decide), si_eq]; rfl)]
      exact ⟨_, fun r y => by rw [sir y, sir y, zr r y], fun j a b d e => by rw [si_nj b, si_nj d, zo j a b d e], ⟨by rw [si_nj (by decide), si_nj (by decide), z18], by rw [si_eq, b5, show st + 1 - st = 1 by omega]; rfl, by rw [si_nj (by decide), si_eq, b4]; rfl, fun y => by omega⟩, rfl⟩
/-- the class's number -/
theorem va_41 {st : Nat} {k : Int32 → Int32 → gS → gR} {en : Nat} {c : gS} (h : TC c T len) (h4 : c.1 1 4 = nI en) (hen : en ≤ len) : ∀ (n i : Nat), st + i ≤ en → en - (st + i) < n → f_X7_value_41 k n (vl T st i) (nI (st + i)) c = k (vl T st (en - st)) (nI en) c := by
  have hl := h.1
  intro n
  induction n with
  | zero => intro i _ h1; omega
  | succ n ih =>
    intro i h1 h2
    rw [f_X7_value_41.eq_2, h4]
    by_cases e : en ≤ st + i
    · have e' : st + i = en := by omega
      rw [if_pos ((nI_leI (by omega) (by omega)).mpr e), e', show i = en - st by omega]
    · rw [if_neg (by rw [nI_leI (by omega) (by omega)]; exact e), g_ixn (by omega) (by omega), nI_clamp (by omega), h.2.2 _ (by omega), gl_i, nI_1]
      exact ih (i + 1) (by omega) (by omega)
theorem va_c {c : gS} {st en : Nat} (h : TC c T len) (h2 : c.1 1 2 = nI 2) (h3 : c.1 1 3 = nI st) (h4 : c.1 1 4 = nI en) (hen : en ≤ len) (hs : st ≤ en) : f_X7_value c = some (some (.int (if en - st ≤ 3 then vl T st (en - st) else -1)), c) := by
  have hl := h.1
  unfold f_X7_value
  rw [h2, if_pos (show nI 2 = 2 from rfl), h3, h4, h.2.1, pk_sub hs]
  by_cases e : en - st ≤ 3
  · rw [if_neg (show ¬ (3 : Int32) < nI (en - st) from fun z => by have := (nI_ltI (a := 3) (by omega) (by omega)).mp z; omega), if_pos (nI_le hen (by omega)), gl_i, if_pos e]
    exact va_41 (st := st) (k := fun v1_3 v2_4 s5 => (some (some (.int v1_3), s5))) h h4 hen g_N 0 (by omega) (by unfold g_N; omega)
  · rw [if_pos (show (3 : Int32) < nI (en - st) from (nI_ltI (a := 3) (by omega) (by omega)).mpr (by omega)), if_neg e]
end LOOK
