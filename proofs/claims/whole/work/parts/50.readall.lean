/-! Reading all -/
section READALL
variable {T : Nat → Int32} {len w h : Nat}
theorem read_l {c0 m0 : gS} : ∀ (d n n' i kd st en : Nat) (c m : gS), 500 - i = d → i ≤ 500 → d < n → d + 1 < n' → SA c m T len kd st en → (kd = 0 → st = len) → DD c m w h → i ≤ st → PF c0 c → Mk m0 m →
    (∃ c' m' x, PF c0 c' ∧ Mk m0 m' ∧ DD c' m' w h ∧ (∀ k, f_X5_read_37 k n (nI i) c = k x c') ∧ ∀ k, f_X10_readsAll_23 k n' 1 m = k 1 m') ∨ (∃ c' m' x, PF c0 c' ∧ Mk m0 m' ∧ FL c' m' ∧ (∀ k, f_X5_read_37 k n (nI i) c = k x c') ∧ ∀ k, f_X10_readsAll_23 k n' 1 m = k 0 m') := by
  intro d
  induction d with
  | zero =>
    intro n n' i kd st en c m h1 h2 h3 h4 sa hk D hi p q
    obtain ⟨a1, a2, a3, a4, a5, a6, a7, a8, a9, a10⟩ := sa
    have hl := a1.1
    obtain ⟨n0, rfl⟩ : ∃ k, n = k + 1 := ⟨n - 1, by omega⟩
    obtain ⟨n0', rfl⟩ : ∃ k, n' = k + 1 := ⟨n' - 1, by omega⟩
    have hkd : kd = 0 := by
      by_cases e : kd = 0
      · exact e
      · have := a10 e; omega
    have e : i = 500 := by omega
    refine Or.inl ⟨c, m, nI i, p, q, D, fun k => ?_, fun k => ?_⟩
    · rw [f_X5_read_37.eq_2, if_pos (show (500 : Int32) ≤ nI i by rw [e]; decide)]
    · rw [f_X10_readsAll_23.eq_2, if_neg (by decide), a6.2.2.1, hkd, if_pos (show nI 0 = 0 from rfl)]
  | succ d ih =>
    intro n n' i kd st en c m h1 h2 h3 h4 sa hk D hi p q
    have sa' := sa
    obtain ⟨a1, a2, a3, a4, a5, a6, a7, a8, a9, a10⟩ := sa'
    have hl := a1.1
    obtain ⟨n0, rfl⟩ : ∃ k, n = k + 1 := ⟨n - 1, by omega⟩
    obtain ⟨n0', rfl⟩ : ∃ k, n' = k + 1 := ⟨n' - 1, by omega⟩
    have h500 : ¬ (500 : Int32) ≤ nI i := fun z => by have := (nI_leI (a := 500) (by omega) (by omega)).mp z; omega
    by_cases e : kd = 0
    · refine Or.inl ⟨c, m, nI i, p, q, D, fun k => ?_, fun k => ?_⟩
      · rw [f_X5_read_37.eq_2, if_neg h500, a3, e, if_pos (show nI 0 = 0 from rfl)]
      · rw [f_X10_readsAll_23.eq_2, if_neg (by decide), a6.2.2.1, e, if_pos (show nI 0 = 0 from rfl)]
    · have e0 : ¬ nI kd = 0 := fun z => e ((nI_eq (b := 0) (by omega) (by omega)).mp z)
      have hse := a10 e
      rcases E_item sa D with ⟨c1, m1, p', kd', st', en', s1, lt, b1, b2, b3, b4, b5⟩ | ⟨c1, m1, b1, b2, b3, b4, b5⟩
      · obtain ⟨c2, f2, n2, sa2⟩ := s1.nt
        have o1 := s1.2.2.2.2.1.1.1
        have o2 := s1.2.2.2.2.1.b.2.2.2.2.2
        have D2 : DD c2 m1 w h := by
          unfold DD at *
          obtain ⟨hr, wq, ng, nt, nk, l, th, gr, ti, L, D1⟩ := b3
          refine ⟨hr, wq, ng, nt, nk, l, th, gr, ti, L.congr (fun k a b => (f2.1 k (by simp; omega)).1), ?_⟩
          rw [(f2.1 3 (by simp)).1, (f2.1 4 (by simp)).1, (f2.1 7 (by simp)).1, (f2.1 8 (by simp)).1, (f2.1 9 (by simp)).1, (f2.1 12 (by simp)).1, (f2.1 13 (by simp)).1]
          exact D1
        rcases ih n0 n0' (i + 1) kd' st' en' c2 m1 (by omega) (by omega) (by omega) (by omega) sa2 o2 D2 (by omega) ((p.tr b1).tr f2.pf) (q.tr b2) with ⟨c', m', x, z1, z2, z3, z4, z5⟩ | ⟨c', m', x, z1, z2, z3, z4, z5⟩
        · refine Or.inl ⟨c', m', x, z1, z2, z3, fun k => ?_, fun k => ?_⟩
          · rw [f_X5_read_37.eq_2, if_neg h500, a3, if_neg e0, b4, gb_i, if_neg (by decide), n2, gb_v, nI_1]
            exact z4 k
          · rw [f_X10_readsAll_23.eq_2, if_neg (by decide), a6.2.2.1, if_neg e0, b5, gb_i]
            exact z5 k
        · refine Or.inr ⟨c', m', x, z1, z2, z3, fun k => ?_, fun k => ?_⟩
          · rw [f_X5_read_37.eq_2, if_neg h500, a3, if_neg e0, b4, gb_i, if_neg (by decide), n2, gb_v, nI_1]
            exact z4 k
          · rw [f_X10_readsAll_23.eq_2, if_neg (by decide), a6.2.2.1, if_neg e0, b5, gb_i]
            exact z5 k
      · obtain ⟨n1', rfl⟩ : ∃ k, n0' = k + 1 := ⟨n0' - 1, by omega⟩
        refine Or.inr ⟨c1, m1, nI i, p.tr b1, q.tr b2, b3, fun k => ?_, fun k => ?_⟩
        · rw [f_X5_read_37.eq_2, if_neg h500, a3, if_neg e0, b4, gb_i, if_pos rfl]
        · rw [f_X10_readsAll_23.eq_2, if_neg (by decide), a6.2.2.1, if_neg e0, b5, gb_i, f_X10_readsAll_23.eq_2, if_pos rfl]
end READALL
