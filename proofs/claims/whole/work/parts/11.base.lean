/-! The pure part: numbers, bindings, tables -/
theorem c32_0 : (0 : Int32) = nI 0 := rfl
theorem c32_1 : (1 : Int32) = nI 1 := rfl
theorem c32_2 : (2 : Int32) = nI 2 := rfl
theorem c32_3 : (3 : Int32) = nI 3 := rfl
theorem c32_4 : (4 : Int32) = nI 4 := rfl
theorem c32_5 : (5 : Int32) = nI 5 := rfl
theorem c32_6 : (6 : Int32) = nI 6 := rfl
theorem c32_7 : (7 : Int32) = nI 7 := rfl
theorem c32_8 : (8 : Int32) = nI 8 := rfl
theorem c32_9 : (9 : Int32) = nI 9 := rfl
theorem c32_10 : (10 : Int32) = nI 10 := rfl
theorem c32_11 : (11 : Int32) = nI 11 := rfl
theorem c32_12 : (12 : Int32) = nI 12 := rfl
theorem c32_15 : (15 : Int32) = nI 15 := rfl
theorem c32_18 : (18 : Int32) = nI 18 := rfl
theorem c32_20 : (20 : Int32) = nI 20 := rfl
theorem c32_30 : (30 : Int32) = nI 30 := rfl
theorem c32_31 : (31 : Int32) = nI 31 := rfl
theorem c32_32 : (32 : Int32) = nI 32 := rfl
theorem c32_40 : (40 : Int32) = nI 40 := rfl
theorem c32_48 : (48 : Int32) = nI 48 := rfl
theorem c32_57 : (57 : Int32) = nI 57 := rfl
theorem c32_59 : (59 : Int32) = nI 59 := rfl
theorem c32_80 : (80 : Int32) = nI 80 := rfl
theorem c32_81 : (81 : Int32) = nI 81 := rfl
theorem c32_82 : (82 : Int32) = nI 82 := rfl
theorem c32_83 : (83 : Int32) = nI 83 := rfl
theorem c32_84 : (84 : Int32) = nI 84 := rfl
theorem c32_85 : (85 : Int32) = nI 85 := rfl
theorem c32_86 : (86 : Int32) = nI 86 := rfl
theorem c32_87 : (87 : Int32) = nI 87 := rfl
theorem c32_88 : (88 : Int32) = nI 88 := rfl
theorem c32_97 : (97 : Int32) = nI 97 := rfl
theorem c32_99 : (99 : Int32) = nI 99 := rfl
theorem c32_122 : (122 : Int32) = nI 122 := rfl
theorem c32_176 : (176 : Int32) = nI 176 := rfl
theorem c32_255 : (255 : Int32) = nI 255 := rfl
theorem c32_500 : (500 : Int32) = nI 500 := rfl
theorem c32_1000 : (1000 : Int32) = nI 1000 := rfl
theorem c32_9999 : (9999 : Int32) = nI 9999 := rfl
theorem c32_65536 : (65536 : Int32) = nI 65536 := rfl
theorem c32_1000000000 : (1000000000 : Int32) = nI 1000000000 := rfl
theorem c32_12345 : (12345 : Int32) = nI 12345 := rfl
theorem c32_1103515245 : (1103515245 : Int32) = nI 1103515245 := rfl
theorem c32_2147483647 : (2147483647 : Int32) = nI 2147483647 := rfl
theorem c64_0 : (0 : Int64) = lN 0 := rfl
theorem c64_1 : (1 : Int64) = lN 1 := rfl
theorem c64_2 : (2 : Int64) = lN 2 := rfl
theorem c64_3 : (3 : Int64) = lN 3 := rfl
theorem c64_8 : (8 : Int64) = lN 8 := rfl
theorem c64_9 : (9 : Int64) = lN 9 := rfl
theorem c64_12 : (12 : Int64) = lN 12 := rfl
theorem c64_18 : (18 : Int64) = lN 18 := rfl
theorem c64_99 : (99 : Int64) = lN 99 := rfl
theorem c64_9999 : (9999 : Int64) = lN 9999 := rfl
theorem c64_255 : (255 : Int64) = lN 255 := rfl
theorem c64_12345 : (12345 : Int64) = lN 12345 := rfl
theorem c64_1103515245 : (1103515245 : Int64) = lN 1103515245 := rfl
theorem c64_2147483647 : (2147483647 : Int64) = lN 2147483647 := rfl
theorem c64_2147483648 : (2147483648 : Int64) = lN 2147483648 := rfl
theorem c64_1000000000 : (1000000000 : Int64) = lN 1000000000 := rfl
theorem gb_i {v : Int32} {σ : gS} {f : Int32 → gS → gR} : g_bind (some (some (.int v), σ)) (g_ki f) = f v σ := rfl
theorem gb_v {σ : gS} {f : gS → gR} : g_bind (some (none, σ)) (g_kv f) = f σ := rfl
theorem g_ixv {i : Int32} {n : Nat} {o : gR} (h : vp_in i n) : g_ix i n o = o := if_neg h
theorem g_ixn {k n : Nat} {o : gR} (h : k < n) (hn : n < 2 ^ 31) : g_ix (nI k) n o = o := if_neg (vp_in_nI h hn)
theorem si1 {σ : gS} {k j a b : Nat} {v : Int32} : (g_si σ k j v).1 a b = if a = k ∧ b = j then v else σ.1 a b := by
  by_cases h : a = k
  · subst h
    by_cases h2 : b = j
    · subst h2; simp [g_si, upd]
    · simp [g_si, upd, h2]
  · simp [g_si, h]
theorem si2 {σ : gS} {k j : Nat} {v : Int32} : (g_si σ k j v).2 = σ.2 := rfl
theorem sl1 {σ : gS} {k j : Nat} {v : Int64} : (g_sl σ k j v).1 = σ.1 := rfl
theorem sl2 {σ : gS} {k j a b : Nat} {v : Int64} : (g_sl σ k j v).2 a b = if a = k ∧ b = j then v else σ.2 a b := by
  by_cases h : a = k
  · subst h
    by_cases h2 : b = j
    · subst h2; simp [g_sl, vp_updL]
    · simp [g_sl, vp_updL, h2]
  · simp [g_sl, h]
theorem sir {σ : gS} {k j a : Nat} {v : Int32} (h : a ≠ k) : (g_si σ k j v).1 a = σ.1 a := by simp [g_si, h]
theorem slr {σ : gS} {k j a : Nat} {v : Int64} (h : a ≠ k) : (g_sl σ k j v).2 a = σ.2 a := by simp [g_sl, h]
/-- an int is below 0 or a number -/
theorem i32c (x : Int32) : x < 0 ∨ ∃ j : Nat, j < 2 ^ 31 ∧ x = nI j := by
  by_cases h : x < 0
  · exact Or.inl h
  · exact Or.inr (nI_of h)
theorem nI_m1 {k : Nat} (h : k < 2 ^ 31) : ¬ nI k = -1 := by
  intro q
  have := congrArg Int32.toInt q
  rw [nI_toInt h] at this
  have e : (-1 : Int32).toInt = -1 := by decide
  omega
theorem m1_lt {k : Nat} (h : k < 2 ^ 31) : (-1 : Int32) < nI k := by
  rw [Int32.lt_iff_toInt_lt, nI_toInt h]
  have e : (-1 : Int32).toInt = -1 := by decide
  omega
theorem neg_lt {x : Int32} (h : x < 0) {k : Nat} (hk : k < 2 ^ 31) : x < nI k := by
  rw [Int32.lt_iff_toInt_lt] at h ⊢
  rw [nI_toInt hk]
  have e : (0 : Int32).toInt = 0 := by decide
  omega
theorem neg_nle {x : Int32} (h : x < 0) {k : Nat} (hk : k < 2 ^ 31) : ¬ nI k ≤ x := by
  rw [Int32.le_iff_toInt_le, nI_toInt hk]
  rw [Int32.lt_iff_toInt_lt] at h
  have e : (0 : Int32).toInt = 0 := by decide
  omega
theorem nI_n0 {k : Nat} (h : k < 2 ^ 31) : ¬ nI k < 0 := nI_pos h
theorem remN {a d : Nat} (ha : a < 2 ^ 31) (h0 : 0 < d) (hd : d < 2 ^ 31) : g_rem (nI a) (nI d) = nI (a % d) := pk_rem ha h0 hd
theorem remlN {a d : Nat} (ha : a < 2 ^ 63) (h0 : 0 < d) (hd : d < 2 ^ 63) : g_reml (lN a) (lN d) = lN (a % d) := pk_lRem ha h0 hd
/-- the reference's 'in' -/
theorem in_f (v lo hi : Int64) (s : gS) : f_X10_in v lo hi s = some (some (.int (if lo ≤ v ∧ v ≤ hi then 1 else 0)), s) := by
  unfold f_X10_in
  simp only [lg_cmp_lt, lg_cmp_gt]
  by_cases h1 : v < lo
  · rw [if_pos h1, if_neg]
    intro ⟨q, _⟩
    exact absurd q (Int64.not_le.mpr h1)
  · rw [if_neg h1]
    by_cases h2 : hi < v
    · rw [if_pos h2, if_neg]
      intro ⟨_, q⟩
      exact absurd q (Int64.not_le.mpr h2)
    · rw [if_neg h2, if_pos ⟨Int64.not_lt.mp h1, Int64.not_lt.mp h2⟩]
theorem i64le (x y : Int32) : x.toInt64 ≤ y.toInt64 ↔ x ≤ y := by
  rw [Int64.le_iff_toInt_le, Int32.le_iff_toInt_le, Int32.toInt_toInt64, Int32.toInt_toInt64]
theorem i64z (k : Nat) (h : k < 2 ^ 31) : (lN k) = (nI k).toInt64 := (nI_l h).symm
/-- 'in' over ints -/
theorem in_i (v : Int32) (lo hi : Nat) (h1 : lo < 2 ^ 31) (h2 : hi < 2 ^ 31) (s : gS) : f_X10_in v.toInt64 (lN lo) (lN hi) s = some (some (.int (if nI lo ≤ v ∧ v ≤ nI hi then 1 else 0)), s) := by
  rw [in_f, i64z lo h1, i64z hi h2]
  simp only [i64le]
/-- an int against a range of numbers: outside, or a number -/
theorem rng (v : Int32) (hi : Nat) (h : hi < 2 ^ 31) : (¬ (nI 0 ≤ v ∧ v ≤ nI hi) ∧ (v < 0 ∨ nI hi < v)) ∨ ∃ k, k ≤ hi ∧ v = nI k := by
  rcases i32c v with q | ⟨j, hj, rfl⟩
  · exact Or.inl ⟨fun h2 => neg_nle q (by omega) h2.1, Or.inl q⟩
  · by_cases hk : j ≤ hi
    · exact Or.inr ⟨j, hk, rfl⟩
    · refine Or.inl ⟨fun h2 => hk ((nI_leI hj h).mp h2.2), Or.inr ((nI_ltI h hj).mpr (by omega))⟩
