/-! Tokens -/
def Rn (P : Int32 → Prop) (T : Nat → Int32) (len p q : Nat) : Prop := p ≤ q ∧ q ≤ len ∧ (∀ j, p ≤ j → j < q → P (T j)) ∧ (q = len ∨ ¬ P (T q))
theorem Rn.ex {P : Int32 → Prop} {T : Nat → Int32} {len : Nat} : ∀ (d p : Nat), len - p = d → p ≤ len → ∃ q, Rn P T len p q := by
  intro d
  induction d with
  | zero => intro p h1 h2; exact ⟨p, Nat.le_refl _, h2, fun j a b => absurd b (by omega), Or.inl (by omega)⟩
  | succ d ih =>
    intro p h1 h2
    rcases Classical.em (P (T p)) with h | h
    · obtain ⟨q, a, b, e, f⟩ := ih (p + 1) (by omega) (by omega)
      refine ⟨q, by omega, b, fun j x y => ?_, f⟩
      by_cases z : j = p
      · rw [z]; exact h
      · exact e j (by omega) y
    · exact ⟨p, Nat.le_refl _, h2, fun j a b => absurd b (by omega), Or.inr h⟩
abbrev Psp (x : Int32) : Prop := x = 32
abbrev Psm (x : Int32) : Prop := 97 ≤ x ∧ x ≤ 122
abbrev Pfg (x : Int32) : Prop := 48 ≤ x ∧ x ≤ 57
def Tk (T : Nat → Int32) (len p kd st en : Nat) : Prop := Rn Psp T len p st ∧ ((st = len ∧ kd = 0 ∧ en = st) ∨ (st < len ∧ ((Psm (T st) ∧ kd = 1 ∧ Rn Psm T len st en) ∨ (¬ Psm (T st) ∧ Pfg (T st) ∧ kd = 2 ∧ Rn Pfg T len st en) ∨ (¬ Psm (T st) ∧ ¬ Pfg (T st) ∧ T st = 59 ∧ kd = 3 ∧ en = st + 1) ∨ (¬ Psm (T st) ∧ ¬ Pfg (T st) ∧ T st ≠ 59 ∧ kd = 4 ∧ en = st + 1))))
theorem Tk.ex {T : Nat → Int32} {len p : Nat} (h : p ≤ len) : ∃ kd st en, Tk T len p kd st en := by
  obtain ⟨st, hs⟩ := Rn.ex (P := Psp) (T := T) (len := len) (len - p) p rfl h
  by_cases e : st = len
  · exact ⟨0, st, st, hs, Or.inl ⟨e, rfl, rfl⟩⟩
  have hl : st < len := by have := hs.2.1; omega
  by_cases h1 : Psm (T st)
  · obtain ⟨en, he⟩ := Rn.ex (P := Psm) (T := T) (len := len) (len - st) st rfl hs.2.1
    exact ⟨1, st, en, hs, Or.inr ⟨hl, Or.inl ⟨h1, rfl, he⟩⟩⟩
  by_cases h2 : Pfg (T st)
  · obtain ⟨en, he⟩ := Rn.ex (P := Pfg) (T := T) (len := len) (len - st) st rfl hs.2.1
    exact ⟨2, st, en, hs, Or.inr ⟨hl, Or.inr (Or.inl ⟨h1, h2, rfl, he⟩)⟩⟩
  by_cases h3 : T st = 59
  · exact ⟨3, st, st + 1, hs, Or.inr ⟨hl, Or.inr (Or.inr (Or.inl ⟨h1, h2, h3, rfl, rfl⟩))⟩⟩
  · exact ⟨4, st, st + 1, hs, Or.inr ⟨hl, Or.inr (Or.inr (Or.inr ⟨h1, h2, h3, rfl, rfl⟩))⟩⟩
theorem Tk.b {T : Nat → Int32} {len p kd st en : Nat} (h : Tk T len p kd st en) : p ≤ st ∧ st ≤ en ∧ en ≤ len ∧ kd ≤ 4 ∧ (kd ≠ 0 → st < en) ∧ (kd = 0 → st = len) := by
  obtain ⟨h1, h2⟩ := h
  have a1 := h1.1
  have a2 := h1.2.1
  have nx : ∀ P : Int32 → Prop, P (T st) → Rn P T len st en → st < len → st < en := fun P hp hr hl => by
    rcases hr.2.2.2 with z | z
    · omega
    · by_cases e : st = en
      · rw [← e] at z; exact absurd hp z
      · have := hr.1; omega
  rcases h2 with ⟨b1, b2, b3⟩ | ⟨b0, ⟨b1, b2, b3⟩ | ⟨b1, b2, b3, b4⟩ | ⟨b1, b2, b3, b4, b5⟩ | ⟨b1, b2, b3, b4, b5⟩⟩
  · exact ⟨a1, by omega, by omega, by omega, fun z => absurd b2 z, fun _ => b1⟩
  · have := nx Psm b1 b3 b0
    exact ⟨a1, b3.1, b3.2.1, by omega, fun _ => this, fun z => by omega⟩
  · have := nx Pfg b2 b4 b0
    exact ⟨a1, b4.1, b4.2.1, by omega, fun _ => this, fun z => by omega⟩
  · exact ⟨a1, by omega, by omega, by omega, fun _ => by omega, fun z => by omega⟩
  · exact ⟨a1, by omega, by omega, by omega, fun _ => by omega, fun z => by omega⟩
/-- the class's text: its length and its signs -/
def TC (c : gS) (T : Nat → Int32) (len : Nat) : Prop := len ≤ 500 ∧ c.1 1 1 = nI len ∧ ∀ k, k < len → c.1 2 k = T k
def TM (m : gS) (T : Nat → Int32) (len : Nat) : Prop := len ≤ 500 ∧ m.1 0 16 = nI len ∧ ∀ k, k < len → m.1 11 k = T k
theorem g_si_si {σ : gS} {k j : Nat} {v v' : Int32} : g_si (g_si σ k j v) k j v' = g_si σ k j v' := by
  refine Prod.ext (funext fun a => funext fun b => ?_) rfl
  rw [si1, si1, si1]
  by_cases e : a = k ∧ b = j
  · rw [if_pos e, if_pos e]
  · rw [if_neg e, if_neg e, if_neg e]
theorem g_si_id {σ : gS} {k j : Nat} {v : Int32} (h : σ.1 k j = v) : g_si σ k j v = σ := by
  refine Prod.ext (funext fun a => funext fun b => ?_) rfl
  rw [si1]
  by_cases e : a = k ∧ b = j
  · rw [if_pos e, e.1, e.2, h]
  · rw [if_neg e]
theorem Rn.st {P : Int32 → Prop} {T : Nat → Int32} {len p q : Nat} (h : Rn P T len p q) (hp : p < len) : (P (T p) ∧ p ≠ q ∧ Rn P T len (p + 1) q) ∨ (¬ P (T p) ∧ q = p) := by
  obtain ⟨a1, a2, a3, a4⟩ := h
  rcases Classical.em (P (T p)) with e | e
  · have hpq : p ≠ q := fun z => by
      rw [← z] at a4
      exact a4.elim (fun y => by omega) (fun y => y e)
    exact Or.inl ⟨e, hpq, by omega, a2, fun j x y => a3 j (by omega) y, a4⟩
  · refine Or.inr ⟨e, ?_⟩
    by_cases z : q = p
    · exact z
    · exact absurd (a3 p (Nat.le_refl _) (by omega)) e
theorem Rn.en {P : Int32 → Prop} {T : Nat → Int32} {len p q : Nat} (h : Rn P T len p q) (hp : len ≤ p) : q = p := by
  have := h.1; have := h.2.1; omega
theorem TC.si {c : gS} {T : Nat → Int32} {len j : Nat} {v : Int32} (h : TC c T len) (hj : j ≠ 1) : TC (g_si c 1 j v) T len := ⟨h.1, by rw [si_nj (fun z => hj z.symm)]; exact h.2.1, by rw [sir (by decide)]; exact h.2.2⟩
theorem TM.si {m : gS} {T : Nat → Int32} {len j : Nat} {v : Int32} (h : TM m T len) (hj : j ≠ 16) : TM (g_si m 0 j v) T len := ⟨h.1, by rw [si_nj (fun z => hj z.symm)]; exact h.2.1, by rw [sir (by decide)]; exact h.2.2⟩
section TOK
variable {T : Nat → Int32} {len : Nat}
theorem nt_8 {q : Nat} {k : gS → gR} : ∀ (n p : Nat) (c : gS), q - p < n → TC c T len → c.1 1 3 = nI p → Rn Psp T len p q → f_X7_nextToken_8 k n c = k (g_si c 1 3 (nI q)) := by
  intro n
  induction n with
  | zero => intro p c h1; omega
  | succ n ih =>
    intro p c h1 h2 h3 h4
    have hl := h2.1
    have hq := h4.1
    rw [f_X7_nextToken_8.eq_2, h2.2.1, h3]
    by_cases e : len ≤ p
    · rw [if_pos ((nI_leI (by have := h4.2.1; omega) (by have := h4.2.1; omega)).mpr e), h4.en e, g_si_id h3]
    · rw [if_neg (by rw [nI_leI (by omega) (by omega)]; exact e), g_ixn (by omega) (by omega), nI_clamp (by omega), h2.2.2 p (by omega)]
      rcases h4.st (by omega) with ⟨e2, e3, e4⟩ | ⟨e2, e3⟩
      · rw [if_pos e2, gl_s, nI_1, ih (p + 1) (g_si c 1 3 (nI (p + 1))) (by omega) (h2.si (by decide)) (by rw [si_eq]) e4, g_si_si]
      · rw [if_neg e2, e3, g_si_id h3]
theorem nt_54 {q : Nat} {k : gS → gR} : ∀ (n p : Nat) (c : gS), q - p < n → TC c T len → c.1 1 4 = nI p → Rn Psm T len p q → f_X7_nextToken_54 k n c = k (g_si c 1 4 (nI q)) := by
  intro n
  induction n with
  | zero => intro p c h1; omega
  | succ n ih =>
    intro p c h1 h2 h3 h4
    have hl := h2.1
    have hq := h4.1
    rw [f_X7_nextToken_54.eq_2, h2.2.1, h3]
    by_cases e : len ≤ p
    · rw [if_pos ((nI_leI (by have := h4.2.1; omega) (by have := h4.2.1; omega)).mpr e), h4.en e, g_si_id h3]
    · rw [if_neg (by rw [nI_leI (by omega) (by omega)]; exact e), g_ixn (by omega) (by omega), g_ixn (by omega) (by omega), nI_clamp (by omega), h2.2.2 p (by omega)]
      rcases h4.st (by omega) with ⟨e2, e3, e4⟩ | ⟨e2, e3⟩
      · rw [if_neg (Int32.not_lt.mpr e2.1), if_neg (Int32.not_lt.mpr e2.2), gl_s, nI_1, ih (p + 1) (g_si c 1 4 (nI (p + 1))) (by omega) (h2.si (by decide)) (by rw [si_eq]) e4, g_si_si]
      · rw [e3, g_si_id h3]
        by_cases z : T p < 97
        · rw [if_pos z]
        · rw [if_neg z, if_pos]
          exact Int32.not_le.mp (fun y => e2 ⟨Int32.not_lt.mp z, y⟩)
theorem nt_123 {q : Nat} {k : gS → gR} : ∀ (n p : Nat) (c : gS), q - p < n → TC c T len → c.1 1 4 = nI p → Rn Pfg T len p q → f_X7_nextToken_123 k n c = k (g_si c 1 4 (nI q)) := by
  intro n
  induction n with
  | zero => intro p c h1; omega
  | succ n ih =>
    intro p c h1 h2 h3 h4
    have hl := h2.1
    have hq := h4.1
    rw [f_X7_nextToken_123.eq_2, h2.2.1, h3]
    by_cases e : len ≤ p
    · rw [if_pos ((nI_leI (by have := h4.2.1; omega) (by have := h4.2.1; omega)).mpr e), h4.en e, g_si_id h3]
    · rw [if_neg (by rw [nI_leI (by omega) (by omega)]; exact e), g_ixn (by omega) (by omega), g_ixn (by omega) (by omega), nI_clamp (by omega), h2.2.2 p (by omega)]
      rcases h4.st (by omega) with ⟨e2, e3, e4⟩ | ⟨e2, e3⟩
      · rw [if_neg (Int32.not_lt.mpr e2.1), if_neg (Int32.not_lt.mpr e2.2), gl_s, nI_1, ih (p + 1) (g_si c 1 4 (nI (p + 1))) (by omega) (h2.si (by decide)) (by rw [si_eq]) e4, g_si_si]
      · rw [e3, g_si_id h3]
        by_cases z : T p < 48
        · rw [if_pos z]
        · rw [if_neg z, if_pos]
          exact Int32.not_le.mp (fun y => e2 ⟨Int32.not_lt.mp z, y⟩)
/-- the class's next token -/
theorem nt_c {c : gS} {p kd st en : Nat} (h : TC c T len) (hp : c.1 1 4 = nI p) (k : Tk T len p kd st en) : ∃ c', Sm [1] c c' ∧ (∀ j, j ≠ 2 → j ≠ 3 → j ≠ 4 → c'.1 1 j = c.1 1 j) ∧ c'.1 1 2 = nI kd ∧ c'.1 1 3 = nI st ∧ c'.1 1 4 = nI en ∧ f_X7_nextToken c = some (none, c') := by
  have hl := h.1
  obtain ⟨kb1, kb2, kb3, kb4, kb5, kb6⟩ := k.b
  obtain ⟨k1, k2⟩ := k
  unfold f_X7_nextToken
  rw [gl_s, hp, nt_8 g_N p (g_si c 1 3 (nI p)) (by unfold g_N; omega) (h.si (by decide)) (by rw [si_eq]) k1, g_si_si, gl_s, si_eq]
  have h1 : TC (g_si (g_si c 1 3 (nI st)) 1 4 (nI st)) T len := (h.si (by decide)).si (by decide)
  have sm1 : Sm [1] c (g_si (g_si c 1 3 (nI st)) 1 4 (nI st)) := (Sm.si (by simp)).tr (Sm.si (by simp))
  -- letters
  have L : ∃ e1, Rn Psm T len st e1 := Rn.ex (len - st) st rfl (by omega)
  obtain ⟨e1, hL⟩ := L
  have hLb := hL.2.1
  have hLa := hL.1
  rw [nt_54 g_N st _ (by unfold g_N; omega) h1 (by rw [si_eq]) hL, g_si_si, gl_s, si_nj (b := 4) (j := 2) (by decide), si_eq, si_nj (b := 3) (j := 2) (by decide), si_nj (b := 3) (j := 4) (by decide), si_eq]
  by_cases hsm : st < len ∧ Psm (T st)
  · have hr : kd = 1 ∧ Rn Psm T len st en := by
      rcases k2 with ⟨b1, b2, b3⟩ | ⟨b0, ⟨b1, b2, b3⟩ | ⟨b1, _⟩ | ⟨b1, _⟩ | ⟨b1, _⟩⟩
      · omega
      · exact ⟨b2, b3⟩
      · exact absurd hsm.2 b1
      · exact absurd hsm.2 b1
      · exact absurd hsm.2 b1
    have hu : e1 = en := by
      have a := hL.2.2.2; have b := hr.2.2.2.2
      have a' := hL.2.2.1; have b' := hr.2.2.2.1
      have b'' := hr.2.2.1
      rcases Nat.lt_trichotomy e1 en with z | z | z
      · rcases a with y | y
        · omega
        · exact absurd (b' e1 hLa z) y
      · exact z
      · rcases b with y | y
        · omega
        · exact absurd (a' en hr.2.1 z) y
    subst hu
    have := kb5 (by omega)
    rw [if_neg (by rw [nI_leI (by omega) (by omega)]; omega)]
    refine ⟨_, ((Sm.si (by simp)).tr (Sm.si (by simp))).tr (Sm.si (by simp)), fun j a b d => by rw [si_nj a, si_nj d, si_nj b], by rw [si_eq, hr.1]; rfl, by rw [si_nj (by decide), si_nj (by decide), si_eq], by rw [si_nj (by decide), si_eq], rfl⟩
  · have hu : e1 = st := by
      by_cases z : st < len
      · rcases hL.st z with ⟨y, _⟩ | ⟨_, y⟩
        · exact absurd ⟨z, y⟩ hsm
        · exact y
      · exact hL.en (by omega)
    subst hu
    have h2 : TC (g_si (g_si (g_si c 1 3 (nI e1)) 1 4 (nI e1)) 1 2 1) T len := h1.si (by decide)
    obtain ⟨e2, hD⟩ : ∃ e2, Rn Pfg T len e1 e2 := Rn.ex (len - e1) e1 rfl (by omega)
    have hDb := hD.2.1
    have hDa := hD.1
    rw [if_pos ((nI_leI (by omega) (by omega)).mpr (Nat.le_refl _)), nt_123 g_N e1 _ (by unfold g_N; omega) h2 (by rw [si_nj (by decide), si_eq]) hD, gl_s, si_nj (b := 4) (j := 2) (by decide), si_eq, si_nj (b := 3) (j := 2) (by decide), si_nj (b := 3) (j := 4) (by decide), si_nj (b := 3) (j := 2) (by decide), si_nj (b := 3) (j := 4) (by decide), si_eq]
    by_cases hfg : e1 < len ∧ Pfg (T e1)
    · have hr : kd = 2 ∧ Rn Pfg T len e1 en := by
        rcases k2 with ⟨b1, b2, b3⟩ | ⟨b0, ⟨b1, b2, b3⟩ | ⟨b1, b2, b3, b4⟩ | ⟨b1, b2, _⟩ | ⟨b1, b2, _⟩⟩
        · omega
        · exact absurd ⟨b0, b1⟩ hsm
        · exact ⟨b3, b4⟩
        · exact absurd hfg.2 b2
        · exact absurd hfg.2 b2
      have hu : e2 = en := by
        have a := hD.2.2.2; have b := hr.2.2.2.2
        have a' := hD.2.2.1; have b' := hr.2.2.2.1
        have b'' := hr.2.2.1
        rcases Nat.lt_trichotomy e2 en with z | z | z
        · rcases a with y | y
          · omega
          · exact absurd (b' e2 hDa z) y
        · exact z
        · rcases b with y | y
          · omega
          · exact absurd (a' en hr.2.1 z) y
      subst hu
      have := kb5 (by omega)
      rw [if_neg (by rw [nI_leI (by omega) (by omega)]; omega)]
      refine ⟨_, ((((Sm.si (by simp)).tr (Sm.si (by simp))).tr (Sm.si (by simp))).tr (Sm.si (by simp))).tr (Sm.si (by simp)), fun j a b d => by rw [si_nj a, si_nj d, si_nj a, si_nj d, si_nj b], by rw [si_eq, hr.1]; rfl, by rw [si_nj (by decide), si_nj (by decide), si_nj (by decide), si_nj (by decide), si_eq], by rw [si_nj (by decide), si_eq], rfl⟩
    · have hu : e2 = e1 := by
        by_cases z : e1 < len
        · rcases hD.st z with ⟨y, _⟩ | ⟨_, y⟩
          · exact absurd ⟨z, y⟩ hfg
          · exact y
        · exact hD.en (by omega)
      subst hu
      rw [if_pos ((nI_leI (by omega) (by omega)).mpr (Nat.le_refl _)), gl_s]
      generalize hz : g_si (g_si (g_si (g_si (g_si (g_si c 1 3 (nI e2)) 1 4 (nI e2)) 1 2 1) 1 4 (nI e2)) 1 2 2) 1 2 0 = z
      have zT : TC z T len := by rw [← hz]; exact ((h2.si (by decide)).si (by decide)).si (by decide)
      have z3 : z.1 1 3 = nI e2 := by rw [← hz, si_nj (by decide), si_nj (by decide), si_nj (by decide), si_nj (by decide), si_nj (by decide), si_eq]
      have z4 : z.1 1 4 = nI e2 := by rw [← hz, si_nj (by decide), si_nj (by decide), si_eq]
      have z2 : z.1 1 2 = 0 := by rw [← hz, si_eq]
      have zS : Sm [1] c z := by rw [← hz]; exact (((((Sm.si (by simp)).tr (Sm.si (by simp))).tr (Sm.si (by simp))).tr (Sm.si (by simp))).tr (Sm.si (by simp))).tr (Sm.si (by simp))
      have zo : ∀ j, j ≠ 2 → j ≠ 3 → j ≠ 4 → z.1 1 j = c.1 1 j := fun j a b d => by rw [← hz, si_nj a, si_nj a, si_nj d, si_nj a, si_nj d, si_nj b]
      rw [z3, zT.2.1]
      by_cases ht : e2 < len
      · rw [if_pos ((nI_ltI (by omega) (by omega)).mpr ht), g_ixn (by omega) (by omega), nI_clamp (by omega), zT.2.2 e2 ht]
        by_cases hs : T e2 = 59
        · have hr : kd = 3 ∧ en = e2 + 1 := by
            rcases k2 with ⟨b1, b2, b3⟩ | ⟨b0, ⟨b1, b2, b3⟩ | ⟨b1, b2, b3, b4⟩ | ⟨b1, b2, b3, b4, b5⟩ | ⟨b1, b2, b3, b4, b5⟩⟩
            · omega
            · exact absurd ⟨b0, b1⟩ hsm
            · exact absurd ⟨b0, b2⟩ hfg
            · exact ⟨b4, b5⟩
            · exact absurd hs b3
          rw [if_pos hs, gl_s, si_nj (b := 3) (j := 2) (by decide), z3, gl_s, nI_1]
          refine ⟨_, (zS.tr (Sm.si (by simp))).tr (Sm.si (by simp)), fun j a b d => by rw [si_nj d, si_nj a, zo j a b d], by rw [si_nj (by decide), si_eq, hr.1]; rfl, by rw [si_nj (by decide), si_nj (by decide), z3], by rw [si_eq, hr.2], rfl⟩
        · have hr : kd = 4 ∧ en = e2 + 1 := by
            rcases k2 with ⟨b1, b2, b3⟩ | ⟨b0, ⟨b1, b2, b3⟩ | ⟨b1, b2, b3, b4⟩ | ⟨b1, b2, b3, b4, b5⟩ | ⟨b1, b2, b3, b4, b5⟩⟩
            · omega
            · exact absurd ⟨b0, b1⟩ hsm
            · exact absurd ⟨b0, b2⟩ hfg
            · exact absurd b3 hs
            · exact ⟨b4, b5⟩
          rw [if_neg hs, gl_s, si_nj (b := 3) (j := 2) (by decide), z3, gl_s, nI_1]
          refine ⟨_, (zS.tr (Sm.si (by simp))).tr (Sm.si (by simp)), fun j a b d => by rw [si_nj d, si_nj a, zo j a b d], by rw [si_nj (by decide), si_eq, hr.1]; rfl, by rw [si_nj (by decide), si_nj (by decide), z3], by rw [si_eq, hr.2], rfl⟩
      · have hr : kd = 0 ∧ en = e2 := by
          rcases k2 with ⟨b1, b2, b3⟩ | ⟨b0, _⟩
          · exact ⟨b2, b3⟩
          · exact absurd b0 ht
        rw [if_neg (by rw [nI_ltI (by omega) (by omega)]; exact ht)]
        exact ⟨z, zS, zo, by rw [z2, hr.1]; rfl, z3, by rw [z4, hr.2], rfl⟩
end TOK
