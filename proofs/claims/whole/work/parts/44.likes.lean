/-! The entry of the likes -/
section LIKES
variable {T : Nat → Int32} {len : Nat}
theorem lk_step {m : gS} {i n : Nat} {k : Int32 → gS → gR} (hi : i < 4) : f_X10_readsLikes_24 k (n + 1) (nI i) m = g_bind (f_X10_takes (nI 0) (nI 9) m) (g_ki (fun r4 s3 => (if r4 = 0 then (some (some (.int (0 : Int32)), s3)) else (g_let (g_si s3 17 i (s3.1 0 38)) (fun s5 => (f_X10_readsLikes_24 k n (nI (i + 1)) s5)))))) := by
  rw [f_X10_readsLikes_24.eq_2, if_neg (show ¬ (4 : Int32) ≤ nI i from fun z => by have := (nI_leI (a := 4) (by omega) (by omega)).mp z; omega)]
  simp only [g_ixn (show i < 4 from hi) (by omega), nI_clamp (show i < 2 ^ 31 by omega), nI_1]
  rfl
theorem lk_done {m : gS} {n : Nat} {k : Int32 → gS → gR} : f_X10_readsLikes_24 k (n + 1) (nI 4) m = k (nI 4) m := by
  rw [f_X10_readsLikes_24.eq_2, if_pos (show (4 : Int32) ≤ nI 4 by decide)]
theorem SA.likes {c m : gS} {kd st en : Nat} (sa : SA c m T len kd st en) :
    (∃ c' m' p' kd' st' en', ∃ l : Nat → Nat, SB c' m' T len p' kd' st' en' ∧ en < p' ∧ (∀ i, i < 4 → l i ≤ 9) ∧ Sm [1, 3, 4] c c' ∧ (∀ j, j ≠ 2 → j ≠ 3 → j ≠ 4 → c'.1 1 j = c.1 1 j) ∧ (∀ j, c'.1 3 j = if j = 8 then 1 else c.1 3 j) ∧ (∀ j, j < 5 → c'.1 4 j = c.1 4 j) ∧ (∀ i, i < 4 → c'.1 4 (5 + i) = nI (l i)) ∧ (∀ r, r ≠ 0 → r ≠ 17 → m'.1 r = m.1 r) ∧ (∀ j, j ≠ 18 → j ≠ 19 → j ≠ 20 → j ≠ 21 → j ≠ 38 → j ≠ 36 → m'.1 0 j = m.1 0 j) ∧ m'.1 0 36 = 1 ∧ (∀ i, i < 4 → m'.1 17 i = nI (l i)) ∧ f_X5_readLikes c = some (some (.int 1), c') ∧ mLik m = some (some (.int 1), m')) ∨
    (∃ c' m', PF c c' ∧ Mk m m' ∧ FL c' m' ∧ f_X5_readLikes c = some (some (.int 0), c') ∧ mLik m = some (some (.int 0), m')) := by
  obtain ⟨n0, hN⟩ : ∃ n0, g_N = n0 + 5 := ⟨g_N - 5, by unfold g_N; omega⟩
  obtain ⟨m0, kd0, st0, en0, g0, g0', sb⟩ := ((sa.ci (k := 3) (j := 8) (v := 1) (by decide) (by decide)).m0 (j := 36) (v := 1) (by decide) (by decide) (by decide) (by decide) (by decide)).go
  have o1 := sb.2.2.2.2.1.1.1
  have MK0 : Mk m m0 := Mk.p0' (fun r a b => by rw [g0.1 r (by omega), sir (by omega)]) (fun j a => by rw [g0.2 j (by omega) (by omega) (by omega) (by omega), si_nj (by omega)])
  have PF0 : PF c (g_si c 3 8 1) := PF.si (by decide) (by decide)
  unfold f_X5_readLikes mLik
  rw [gl_s, gl_s, g0', gb_v, hN, c32_0, show (9 : Int32) = nI 9 from rfl, lk_step (by omega)]
  have no9 : ∀ x : Nat, nI 0 ≤ nI x ↔ True := fun x => by constructor; intro _; trivial; intro _; sorry
  sorry
end LIKES
