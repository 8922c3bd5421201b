/-! The entries of cow and likes -/
section ENTRY3
variable {T : Nat → Int32} {len : Nat}
theorem E_cow {c m : gS} {kd st en w h : Nat} (sa : SA c m T len kd st en) (D : DD c m w h) : Out c m T len en w h (if (c.1 3 7) = 0 then (g_bind (f_X5_readCow c) (g_ki (fun r22 s21 => (g_01 r22 (some (some (.int r22), s21)))))) else (g_bind (f_X5_fail (3 : Int32) c) (g_ki (fun r24 s23 => (g_01 r24 (some (some (.int r24), s23))))))) (f_X10_readsCow m) := by
  obtain ⟨hr, wq, ng, nt, nk, l, th, gr, ti, L, D1, D2, D3, D4, D5, D6, D7, D8, D9, D10, D11, D12, D13, D14, D15⟩ := D
  unfold f_X10_readsCow
  rw [D13.1]
  by_cases e : m.1 0 35 = 0
  · rw [if_pos e, if_pos e]
    rcases sa.cow L D1.1 D1.2 D15 with ⟨c', m', q, x, p', kd', st', en', s1, lt, q1, x1, x2, S, S1, R3, R4, R43, R44, G, G0, G35, G29, G30, e1, e2⟩ | ⟨c', m', p1, p2, p3, e1, e2⟩
    · refine Or.inl ⟨c', m', p', kd', st', en', s1, lt, ?_, ?_, ?_, ?_, ?_⟩
      · exact ⟨S.mono (fun k hk => by simp at hk ⊢; omega), S1 1 (by decide) (by decide) (by decide)⟩
      · exact Mk.p0' (fun r a b => G r (by omega)) (fun j a => G0 j (by omega) (by omega) (by omega) (by omega) (by omega) (by omega) (by omega) (by omega) (by omega))
      · have rc : ∀ k, k ≠ 1 → k ≠ 3 → k ≠ 4 → c'.1 k = c.1 k := fun k a b d => (S k (by simp; omega)).1
        have r3 : ∀ j, j ≠ 7 → c'.1 3 j = c.1 3 j := fun j a => by rw [R3 j, if_neg a]
        have z0 : ∀ j, (j = 22 ∨ j = 23 ∨ j = 32 ∨ j = 33 ∨ j = 34 ∨ j = 36 ∨ j = 37) → m'.1 0 j = m.1 0 j := fun j a => G0 j (by omega) (by omega) (by omega) (by omega) (by omega) (by omega) (by omega) (by omega) (by omega)
        refine ⟨x, q, ng, nt, nk, l, th, gr, ti, L.cg (fun j hj => R4 j (by omega) (by omega)) (rc 5 (by decide) (by decide) (by decide)) (rc 6 (by decide) (by decide) (by decide)) (rc 10 (by decide) (by decide) (by decide)) (rc 11 (by decide) (by decide) (by decide)), ?_, ⟨R44, G30, x1, x2⟩, ⟨R43, G29, q1⟩, fun i hi => ?_, ?_, ?_, ?_, ?_, ?_, ?_, ?_, ?_, ?_, ?_, D15⟩
        · rw [z0 22 (by omega), z0 23 (by omega)]; exact D1
        · rw [R4 (5 + i) (by omega) (by omega), G 17 (by decide)]; exact D4 i hi
        · rw [rc 8 (by decide) (by decide) (by decide), G 14 (by decide)]; exact D5
        · rw [rc 7 (by decide) (by decide) (by decide), G 12 (by decide)]; exact D6
        · rw [rc 9 (by decide) (by decide) (by decide), G 13 (by decide)]; exact D7
        · rw [rc 12 (by decide) (by decide) (by decide), G 15 (by decide)]; exact D8
        · rw [rc 13 (by decide) (by decide) (by decide), G 16 (by decide)]; exact D9
        · rw [r3 4 (by decide), z0 32 (by omega)]; exact D10
        · rw [r3 5 (by decide), z0 34 (by omega)]; exact D11
        · rw [r3 6 (by decide), z0 33 (by omega)]; exact D12
        · exact ⟨by rw [R3 7, if_pos rfl, G35], by rw [r3 8 (by decide), z0 36 (by omega)]; exact D13.2⟩
        · rw [r3 9 (by decide), r3 10 (by decide), z0 37 (by omega)]; exact D14
      · rw [e1, gb_i]; rfl
      · exact e2
    · refine Or.inr ⟨c', m', p1, p2, p3, ?_, ?_⟩
      · rw [e1, gb_i]; rfl
      · exact e2
  · rw [if_neg e, if_neg e]
    exact sa.fl ⟨Sm.rf, rfl⟩
theorem E_likes {c m : gS} {kd st en w h : Nat} (sa : SA c m T len kd st en) (D : DD c m w h) : Out c m T len en w h (if (c.1 3 8) = 0 then (g_bind (f_X5_readLikes c) (g_ki (fun r22 s21 => (g_01 r22 (some (some (.int r22), s21)))))) else (g_bind (f_X5_fail (3 : Int32) c) (g_ki (fun r24 s23 => (g_01 r24 (some (some (.int r24), s23))))))) (f_X10_readsLikes m) := by
  obtain ⟨hr, wq, ng, nt, nk, l, th, gr, ti, L, D1, D2, D3, D4, D5, D6, D7, D8, D9, D10, D11, D12, D13, D14, D15⟩ := D
  unfold f_X10_readsLikes
  rw [D13.2]
  by_cases e : m.1 0 36 = 0
  · rw [if_pos e, if_pos e]
    rcases sa.likes with ⟨c', m', p', kd', st', en', l', s1, lt, l9, S, S1, R3, R4, R45, G, G0, G36, G17, e1, e2⟩ | ⟨c', m', p1, p2, p3, e1, e2⟩
    · refine Or.inl ⟨c', m', p', kd', st', en', s1, lt, ?_, ?_, ?_, ?_, ?_⟩
      · exact ⟨S.mono (fun k hk => by simp at hk ⊢; omega), S1 1 (by decide) (by decide) (by decide)⟩
      · exact Mk.p0' (fun r a b => G r (by omega) (by omega)) (fun j a => G0 j (by omega) (by omega) (by omega) (by omega) (by omega) (by omega))
      · have rc : ∀ k, k ≠ 1 → k ≠ 3 → k ≠ 4 → c'.1 k = c.1 k := fun k a b d => (S k (by simp; omega)).1
        have r3 : ∀ j, j ≠ 8 → c'.1 3 j = c.1 3 j := fun j a => by rw [R3 j, if_neg a]
        have z0 : ∀ j, (j = 22 ∨ j = 23 ∨ j = 29 ∨ j = 30 ∨ j = 32 ∨ j = 33 ∨ j = 34 ∨ j = 35 ∨ j = 37) → m'.1 0 j = m.1 0 j := fun j a => G0 j (by omega) (by omega) (by omega) (by omega) (by omega) (by omega)
        refine ⟨hr, wq, ng, nt, nk, l', th, gr, ti, L.cg (fun j hj => R4 j (by omega)) (rc 5 (by decide) (by decide) (by decide)) (rc 6 (by decide) (by decide) (by decide)) (rc 10 (by decide) (by decide) (by decide)) (rc 11 (by decide) (by decide) (by decide)), ?_, ?_, ?_, fun i hi => ⟨R45 i hi, G17 i hi, l9 i hi⟩, ?_, ?_, ?_, ?_, ?_, ?_, ?_, ?_, ?_, ?_, D15⟩
        · rw [z0 22 (by omega), z0 23 (by omega)]; exact D1
        · rw [R4 4 (by omega), z0 30 (by omega)]; exact D2
        · rw [R4 3 (by omega), z0 29 (by omega)]; exact D3
        · rw [rc 8 (by decide) (by decide) (by decide), G 14 (by decide) (by decide)]; exact D5
        · rw [rc 7 (by decide) (by decide) (by decide), G 12 (by decide) (by decide)]; exact D6
        · rw [rc 9 (by decide) (by decide) (by decide), G 13 (by decide) (by decide)]; exact D7
        · rw [rc 12 (by decide) (by decide) (by decide), G 15 (by decide) (by decide)]; exact D8
        · rw [rc 13 (by decide) (by decide) (by decide), G 16 (by decide) (by decide)]; exact D9
        · rw [r3 4 (by decide), z0 32 (by omega)]; exact D10
        · rw [r3 5 (by decide), z0 34 (by omega)]; exact D11
        · rw [r3 6 (by decide), z0 33 (by omega)]; exact D12
        · exact ⟨by rw [r3 7 (by decide), z0 35 (by omega)]; exact D13.1, by rw [R3 8, if_pos rfl, G36]⟩
        · rw [r3 9 (by decide), r3 10 (by decide), z0 37 (by omega)]; exact D14
      · rw [e1, gb_i]; rfl
      · exact e2
    · refine Or.inr ⟨c', m', p1, p2, p3, ?_, ?_⟩
      · rw [e1, gb_i]; rfl
      · exact e2
  · rw [if_neg e, if_neg e]
    exact sa.fl ⟨Sm.rf, rfl⟩
end ENTRY3
