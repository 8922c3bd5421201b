/-! What the start gives: the classes, the array classes, the Strings, the nest mates -/
theorem l_arr {args : Array Value} {s : State} {ty : FieldType} (h : (Cond.arrayClass ty).before args s = true) : ∃ cA : ClassId, ArrOfT s cA ty ∧ s.vm.findClass ("[" ++ ty.toString) = some cA := by
  obtain ⟨cA, kA, comp, h1, h2, h3⟩ := Cond.arrayClass_spec h
  exact ⟨cA, fun n z => ⟨fun k h => (by cases h), kA, h2, comp, h3⟩, h1⟩
theorem l_classes {args : Array Value} {s : State} (hts : ∀ w ∈ wsL_law, w.before args s = true) : ∃ D : va_G, ∀ (k : Nat) (q : vw_C), vwCl[k]? = some q → u_Kn s q.1 q.2.1 q.2.2 (D.1 k) (D.2 k) := by
  obtain ⟨c0, i0, h0⟩ := u_known (C := RX0) (T := TX0) (N := 4) (n := 4) hts inlX0 (hts (.instantiable RX0 4) wm_47)
  obtain ⟨c1, i1, h1⟩ := u_known (C := RX1) (T := TX1) (N := 6) (n := 6) hts inlX1 (hts (.instantiable RX1 6) wm_35)
  obtain ⟨c2, i2, h2⟩ := u_known (C := RX2) (T := TX2) (N := 2) (n := 2) hts inlX2 (hts (.instantiable RX2 2) wm_30)
  obtain ⟨c3, i3, h3⟩ := u_known (C := RX3) (T := TX3) (N := 16) (n := 16) hts inlX3 (hts (.instantiable RX3 16) wm_22)
  obtain ⟨c4, i4, h4⟩ := u_known (C := RX4) (T := TX4) (N := 11) (n := 11) hts inlX4 (hts (.instantiable RX4 11) wm_26)
  obtain ⟨c5, i5, h5⟩ := u_known (C := RX5) (T := TX5) (N := 11) (n := 11) hts inlX5 (hts (.instantiable RX5 11) wm_18)
  obtain ⟨c6, i6, h6⟩ := u_known (C := RX6) (T := TX6) (N := 7) (n := 7) hts inlX6 (hts (.instantiable RX6 7) wm_43)
  obtain ⟨c7, i7, h7⟩ := u_known (C := RX7) (T := TX7) (N := 5) (n := 5) hts inlX7 (hts (.instantiable RX7 5) wm_14)
  obtain ⟨c8, i8, h8⟩ := u_known (C := RX8) (T := TX8) (N := 9) (n := 9) hts inlX8 (hts (.instantiable RX8 9) wm_39)
  obtain ⟨c9, i9, h9⟩ := u_known (C := RX9) (T := TX9) (N := 10) (n := 10) hts inlX9 (hts (.instantiable RX9 10) wm_1)
  obtain ⟨c10, i10, h10⟩ := u_known (C := RX10) (T := TX10) (N := 46) (n := 46) hts inlX10 (hts (.instantiable RX10 46) wm_4)
  refine ⟨(fun k => match k with | 0 => c0 | 1 => c1 | 2 => c2 | 3 => c3 | 4 => c4 | 5 => c5 | 6 => c6 | 7 => c7 | 8 => c8 | 9 => c9 | _ => c10, fun k => match k with | 0 => i0 | 1 => i1 | 2 => i2 | 3 => i3 | 4 => i4 | 5 => i5 | 6 => i6 | 7 => i7 | 8 => i8 | 9 => i9 | _ => i10), fun k q hq => ?_⟩
  match k, hq with
  | 0, hq => cases hq; exact h0
  | 1, hq => cases hq; exact h1
  | 2, hq => cases hq; exact h2
  | 3, hq => cases hq; exact h3
  | 4, hq => cases hq; exact h4
  | 5, hq => cases hq; exact h5
  | 6, hq => cases hq; exact h6
  | 7, hq => cases hq; exact h7
  | 8, hq => cases hq; exact h8
  | 9, hq => cases hq; exact h9
  | 10, hq => cases hq; exact h10
  | k + 11, hq => simp [vwCl] at hq
set_option maxRecDepth 20000 in
theorem nest_in : ∀ q ∈ g_fn, Cond.fieldLinkNest q.1 q.2.1 q.2.2.1 q.2.2.2.1 q.2.2.2.2 "CowLies" ∈ lw_tbl := List.forall_mem_cons.mpr ⟨tin_1 _ (List.mem_of_getElem? (i := 33) rfl), List.forall_mem_cons.mpr ⟨tin_1 _ (List.mem_of_getElem? (i := 34) rfl), List.forall_mem_cons.mpr ⟨tin_1 _ (List.mem_of_getElem? (i := 37) rfl), List.forall_mem_cons.mpr ⟨tin_1 _ (List.mem_of_getElem? (i := 72) rfl), List.forall_mem_cons.mpr ⟨tin_1 _ (List.mem_of_getElem? (i := 73) rfl), List.forall_mem_cons.mpr ⟨tin_1 _ (List.mem_of_getElem? (i := 75) rfl), List.forall_mem_cons.mpr ⟨tin_1 _ (List.mem_of_getElem? (i := 76) rfl), List.forall_mem_cons.mpr ⟨tin_1 _ (List.mem_of_getElem? (i := 77) rfl), List.forall_mem_cons.mpr ⟨tin_1 _ (List.mem_of_getElem? (i := 78) rfl), List.forall_mem_cons.mpr ⟨tin_1 _ (List.mem_of_getElem? (i := 80) rfl), List.forall_mem_cons.mpr ⟨tin_1 _ (List.mem_of_getElem? (i := 81) rfl), List.forall_mem_cons.mpr ⟨tin_1 _ (List.mem_of_getElem? (i := 82) rfl), List.forall_mem_cons.mpr ⟨tin_1 _ (List.mem_of_getElem? (i := 84) rfl), List.forall_mem_cons.mpr ⟨tin_1 _ (List.mem_of_getElem? (i := 85) rfl), List.forall_mem_cons.mpr ⟨tin_1 _ (List.mem_of_getElem? (i := 87) rfl), List.forall_mem_cons.mpr ⟨tin_1 _ (List.mem_of_getElem? (i := 88) rfl), List.forall_mem_cons.mpr ⟨tin_1 _ (List.mem_of_getElem? (i := 89) rfl), List.forall_mem_cons.mpr ⟨tin_1 _ (List.mem_of_getElem? (i := 90) rfl), List.forall_mem_cons.mpr ⟨tin_1 _ (List.mem_of_getElem? (i := 91) rfl), List.forall_mem_cons.mpr ⟨tin_1 _ (List.mem_of_getElem? (i := 92) rfl), List.forall_mem_cons.mpr ⟨tin_1 _ (List.mem_of_getElem? (i := 100) rfl), List.forall_mem_cons.mpr ⟨tin_1 _ (List.mem_of_getElem? (i := 101) rfl), List.forall_mem_cons.mpr ⟨tin_1 _ (List.mem_of_getElem? (i := 103) rfl), List.forall_mem_cons.mpr ⟨tin_1 _ (List.mem_of_getElem? (i := 104) rfl), List.forall_mem_cons.mpr ⟨tin_1 _ (List.mem_of_getElem? (i := 106) rfl), List.forall_mem_cons.mpr ⟨tin_1 _ (List.mem_of_getElem? (i := 107) rfl), List.forall_mem_cons.mpr ⟨tin_1 _ (List.mem_of_getElem? (i := 110) rfl), List.forall_mem_cons.mpr ⟨tin_1 _ (List.mem_of_getElem? (i := 146) rfl), List.forall_mem_cons.mpr ⟨tin_1 _ (List.mem_of_getElem? (i := 156) rfl), List.forall_mem_cons.mpr ⟨tin_1 _ (List.mem_of_getElem? (i := 191) rfl), List.forall_mem_cons.mpr ⟨tin_1 _ (List.mem_of_getElem? (i := 192) rfl), List.forall_mem_cons.mpr ⟨tin_1 _ (List.mem_of_getElem? (i := 193) rfl), List.forall_mem_cons.mpr ⟨tin_1 _ (List.mem_of_getElem? (i := 195) rfl), List.forall_mem_cons.mpr ⟨tin_1 _ (List.mem_of_getElem? (i := 197) rfl), List.forall_mem_cons.mpr ⟨tin_1 _ (List.mem_of_getElem? (i := 198) rfl), List.forall_mem_cons.mpr ⟨tin_1 _ (List.mem_of_getElem? (i := 199) rfl), List.forall_mem_cons.mpr ⟨tin_1 _ (List.mem_of_getElem? (i := 201) rfl), List.forall_mem_cons.mpr ⟨tin_1 _ (List.mem_of_getElem? (i := 203) rfl), List.forall_mem_cons.mpr ⟨tin_1 _ (List.mem_of_getElem? (i := 204) rfl), List.forall_mem_cons.mpr ⟨tin_1 _ (List.mem_of_getElem? (i := 205) rfl), List.forall_mem_cons.mpr ⟨tin_1 _ (List.mem_of_getElem? (i := 207) rfl), List.forall_mem_cons.mpr ⟨tin_1 _ (List.mem_of_getElem? (i := 209) rfl), List.forall_mem_cons.mpr ⟨tin_1 _ (List.mem_of_getElem? (i := 211) rfl), List.forall_mem_cons.mpr ⟨tin_1 _ (List.mem_of_getElem? (i := 212) rfl), List.forall_mem_cons.mpr ⟨tin_1 _ (List.mem_of_getElem? (i := 214) rfl), List.forall_mem_cons.mpr ⟨tin_1 _ (List.mem_of_getElem? (i := 215) rfl), List.forall_mem_cons.mpr ⟨tin_1 _ (List.mem_of_getElem? (i := 217) rfl), List.forall_mem_cons.mpr ⟨tin_2 _ (List.mem_of_getElem? (i := 10) rfl), List.forall_mem_cons.mpr ⟨tin_2 _ (List.mem_of_getElem? (i := 11) rfl), List.forall_mem_cons.mpr ⟨tin_2 _ (List.mem_of_getElem? (i := 28) rfl), List.forall_mem_cons.mpr ⟨tin_2 _ (List.mem_of_getElem? (i := 29) rfl), List.forall_mem_cons.mpr ⟨tin_2 _ (List.mem_of_getElem? (i := 57) rfl), List.forall_mem_cons.mpr ⟨tin_2 _ (List.mem_of_getElem? (i := 59) rfl), List.forall_mem_cons.mpr ⟨tin_2 _ (List.mem_of_getElem? (i := 61) rfl), List.forall_mem_cons.mpr ⟨tin_2 _ (List.mem_of_getElem? (i := 63) rfl), List.forall_mem_cons.mpr ⟨tin_2 _ (List.mem_of_getElem? (i := 94) rfl), List.forall_mem_cons.mpr ⟨tin_2 _ (List.mem_of_getElem? (i := 122) rfl), fun _ h => absurd h List.not_mem_nil⟩⟩⟩⟩⟩⟩⟩⟩⟩⟩⟩⟩⟩⟩⟩⟩⟩⟩⟩⟩⟩⟩⟩⟩⟩⟩⟩⟩⟩⟩⟩⟩⟩⟩⟩⟩⟩⟩⟩⟩⟩⟩⟩⟩⟩⟩⟩⟩⟩⟩⟩⟩⟩⟩⟩⟩⟩
set_option maxRecDepth 20000 in
theorem sref_in : ∀ i, i < g_sN → Cond.stringRef RX5 (g_sI.getD i 0) (g_sT.getD i "") ∈ lw_tbl := fun i hi => match i, hi with
  | 0, _ => tin_2 _ (List.mem_of_getElem? (i := 198) rfl)
  | 1, _ => tin_3 _ (List.mem_of_getElem? (i := 51) rfl)
  | 2, _ => tin_3 _ (List.mem_of_getElem? (i := 62) rfl)
  | 3, _ => tin_3 _ (List.mem_of_getElem? (i := 63) rfl)
  | 4, _ => tin_3 _ (List.mem_of_getElem? (i := 72) rfl)
  | 5, _ => tin_3 _ (List.mem_of_getElem? (i := 73) rfl)
  | 6, _ => tin_3 _ (List.mem_of_getElem? (i := 74) rfl)
  | 7, _ => tin_3 _ (List.mem_of_getElem? (i := 75) rfl)
  | 8, _ => tin_3 _ (List.mem_of_getElem? (i := 80) rfl)
  | k + 9, h => absurd (show k + 9 < 9 from h) (by omega)
def tmS : Nat → Term := fun i => .string RX5 (g_sI.getD i 0)
theorem sx1 : ∀ i, i < g_sN → Cond.exactly (tmS i) "java/lang/String" ∈ flatC (Jvm.Cond.and given_1 narrow_1) := by decide +kernel
theorem sx2 : ∀ i, i < g_sN → Cond.eq (.field (tmS i) "java/lang/String" "coder" "B") (.int 0) ∈ flatC (Jvm.Cond.and given_1 narrow_1) := by decide +kernel
theorem sx3 : ∀ i, i < g_sN → Cond.arrayOf (.field (tmS i) "java/lang/String" "value" "[B") .byte ∈ flatC (Jvm.Cond.and given_1 narrow_1) := by decide +kernel
theorem sx4 : ∀ i, i < g_sN → Cond.eq (.length (.field (tmS i) "java/lang/String" "value" "[B")) (.int (Int32.ofNat (g_sL.getD i 0))) ∈ flatC (Jvm.Cond.and given_1 narrow_1) := by decide +kernel
theorem sx5 : ∀ i, i < g_sN → ∀ j, j < g_sL.getD i 0 → Cond.eq (.elem (.field (tmS i) "java/lang/String" "value" "[B") (.int (Int32.ofNat j))) (.int ((g_sB.getD i []).getD j 0)) ∈ flatC (Jvm.Cond.and given_1 narrow_1) := by decide +kernel
theorem sx6 : ∀ i, i < g_sN → ∀ j, j < g_sN → i ≠ j → (Cond.not (Cond.eq (tmS i) (tmS j)) ∈ flatC (Jvm.Cond.and given_1 narrow_1) ∨ Cond.not (Cond.eq (tmS j) (tmS i)) ∈ flatC (Jvm.Cond.and given_1 narrow_1)) := by decide +kernel
theorem sx7 : Cond.eq (.static "java/lang/String" "COMPACT_STRINGS" "Z") (.int 1) ∈ flatC (Jvm.Cond.and given_1 narrow_1) := by decide +kernel
theorem sx8 : Cond.isRef (.static "jdk/internal/util/Preconditions" "SIOOBE_FORMATTER" "Ljava/util/function/BiFunction;") ∈ flatC (Jvm.Cond.and given_1 narrow_1) := by decide +kernel
theorem l_str {args : Array Value} {s : State} (hts0 : ∀ w ∈ lw_tbl, w.before args s = true) (hgv : (Jvm.Cond.and given_1 narrow_1).before args s = true) : ∃ adK adV : Nat → Nat, g_Str adK adV (lwA s) s s.heap := by
  have hs := flat_of_before _ hgv
  have hA : ∀ a : Nat, a < s.heap.size → ¬ lwA s a := fun a h => Nat.not_le.mpr h
  obtain ⟨adK, adV, h1, h2⟩ := vk_Sof (args := args) (s := s) (N := g_sN) (tm := tmS) (len := g_sL) (byt := g_sB) (A := lwA s) g_sL_lt (fun i hi => hs _ (sx1 i hi)) (fun i hi => hs _ (sx2 i hi)) (fun i hi => hs _ (sx3 i hi)) (fun i hi => hs _ (sx4 i hi)) (fun i hi j hj => hs _ (sx5 i hi j hj)) (fun i j hi hj hij => (sx6 i hi j hj hij).elim (fun h => Or.inl (hs _ h)) (fun h => Or.inr (hs _ h))) hA
  exact ⟨adK, adV, ⟨h1, va_Zof (hts0 _ (tin_2 _ (List.mem_of_getElem? (i := 212) rfl))) (hts0 _ (tin_1 _ (List.mem_of_getElem? (i := 12) rfl))) (va_eqt (hs _ sx7)) hA, va_Zqof (hts0 _ (tin_2 _ (List.mem_of_getElem? (i := 228) rfl))) (hts0 _ (tin_1 _ (List.mem_of_getElem? (i := 14) rfl))) (hs _ sx8) hA⟩, fun i hi => vk_R.of (hts0 _ (sref_in i hi)) (h2 i hi), va_Nw.of rfl (hts0 _ (tin_4 _ (List.mem_of_getElem? (i := 29) rfl))), fun q hq => va_Nw.of rfl (hts0 _ (nest_in q hq))⟩
theorem l_nest {args : Array Value} {s : State} (hts0 : ∀ w ∈ lw_tbl, w.before args s = true) : va_Nw (.methodLinkNest RX9 9 yX7_init RX9) s := va_Nw.of rfl (hts0 _ (tin_1 _ (List.mem_of_getElem? (i := 27) rfl)))
theorem gW_len {L : gL} {kd : Nat → ClassId} {ad : Nat → Nat} {σ : gS} : (g_W L kd ad σ).length = L.1 := by simp [g_W]
theorem gW_l {L : gL} {kd : Nat → ClassId} {ad : Nat → Nat} {σ : gS} {X : va_W} {k : Nat} {q : Nat × va_E} (h : (g_W L kd ad σ)[k]? = some q) : (g_W L kd ad σ ++ X)[k]? = some q := by
  rw [List.getElem?_append_left (List.getElem?_eq_some_iff.mp h).1]; exact h
theorem gW_r {L : gL} {kd : Nat → ClassId} {ad : Nat → Nat} {σ : gS} {X : va_W} {k : Nat} {q : Nat × va_E} (h : X[k]? = some q) : (g_W L kd ad σ ++ X)[L.1 + k]? = some q := by
  rw [List.getElem?_append_right (by rw [gW_len]; omega), gW_len, Nat.add_sub_cancel_left]; exact h
theorem lw_split {kd : Nat → ClassId} {adC adM : Nat → Nat} {A : Nat → Prop} {σ τ : gS} (hD : va_D A (g_W LC kd adC σ ++ g_W LM kd adM τ)) : va_D A (g_W LC kd adC σ) ∧ va_D A (g_W LM kd adM τ) ∧ ∀ i j, i < 49 → j < 23 → adC i ≠ adM j := by
  refine ⟨⟨fun i j p q hp hq e => hD.1 i j p q (gW_l hp) (gW_l hq) e, fun k q hq => hD.2 k q (gW_l hq)⟩, ⟨fun i j p q hp hq e => ?_, fun k q hq => hD.2 _ q (gW_r hq)⟩, fun i j hi hj e => ?_⟩
  · have := hD.1 _ _ p q (gW_r hp) (gW_r hq) e
    omega
  · have := hD.1 i (LC.1 + j) _ _ (gW_l (g_W_get (show i < LC.1 from hi))) (gW_r (g_W_get (show j < LM.1 from hj))) e
    have h49 : LC.1 = 49 := rfl
    omega
theorem lw_splitP {D : va_G} {kd : Nat → ClassId} {adC adM : Nat → Nat} {H : Heap} {σ τ : gS} (hP : va_P D vwCl (g_W LC kd adC σ ++ g_W LM kd adM τ) H) : va_P D vwCl (g_W LC kd adC σ) H ∧ va_P D vwCl (g_W LM kd adM τ) H :=
  ⟨fun k q hq => hP k q (gW_l hq), fun k q hq => hP _ q (gW_r hq)⟩
theorem c_blindN {As : List Value} {sz : Nat} {D : va_G} {W0 : va_W} {tys : List (ClassId × FieldType)} : FrameBlind (va_Pc As (fun U => U.heap.size = sz ∧ va_P D vwCl W0 U.heap ∧ va_K D vwCl tys U ∧ va_D (fun _ => True) W0 ∧ va_Nw (.methodLinkNest RX9 9 yX7_init RX9) U)) := by
  intro a U g mk q
  obtain ⟨q0, q1, qP, qK, qD, qN⟩ := q
  exact ⟨q0, q1, qP, va_K.moved (u := U) (U := U.calling g mk a) (Vm.Alike.refl U.vm) qK, qD, va_Nw.same (u := U) (U := U.calling g mk a) rfl rfl qN⟩
