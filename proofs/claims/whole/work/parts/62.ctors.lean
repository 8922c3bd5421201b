/-! The constructors -/
theorem g_callR {R : Room} {s : State} {args : Array Value} {own : String} {idx nLy n mc ms : Nat} {y : MethodName} {cy : ByteArray} {rety : Option FieldType} {rm : Room} (hL : g_L own idx y cy nLy rety n) (hts : ∀ w ∈ wsL_law, w.before args s = true) (hc : rm.cells = mc) (hs : rm.slots = ms) (h1 : rm.frames + 1 ≤ R.frames) (h2 : 8 + (nLy + 11) + rm.locals ≤ R.locals) : CallB R s args own idx y cy nLy rety (Cond.code y cy nLy rety :: wsL_law) rm mc ms n :=
  callB_of n hts (fun w h => (List.mem_cons.mp h).elim (fun e => e ▸ g_good _ hL.1) (g_good w)) rfl hc hs (hts _ hL.2.2.1) (hts _ hL.2.1) hL.2.2.2 ⟨h1, h2⟩
theorem c_blind {As : List Value} {sz : Nat} {D : va_G} {W0 : va_W} {tys : List (ClassId × FieldType)} : FrameBlind (va_Pc As (fun U => U.heap.size = sz ∧ va_P D vwCl W0 U.heap ∧ va_K D vwCl tys U ∧ va_D (fun _ => True) W0)) := by
  intro a U g mk q
  obtain ⟨q0, q1, qP, qK, qD⟩ := q
  exact ⟨q0, q1, qP, va_K.moved (u := U) (U := U.calling g mk a) (Vm.Alike.refl U.vm) qK, qD⟩
theorem c_newa_int {p : Program} {l : Launch} {e : Env} {R : Room} {s : State} {m : MethodId} {args : Array Value} {below : List Frame} {meth : Method} {c : Code} {H H0 : Heap} {locs : List Loc} {cells slots : Nat} {Q : State → Prop} {cc : ByteArray} {pc : Nat} {ls : Array Slot} {rest : List Value} {D : va_G} {kd : Nat → ClassId} {A : Nat → Prop} {ws : va_W} (hexec : p.tables.exec = Jvm.exec) (hb : c.code = cc) (harr : (Cond.arrayClass .int).before args s = true) (hK : va_K D vwCl (g_tys kd) s) (hP : va_P D vwCl ws H) (hD : va_D A ws) (hS : va_S A H0 H locs) (hA : ∀ q, H0.size ≤ q → A q)
    {n : Int32} {N' : Nat} {a0 : vp_A} (ha : ∀ cA : ClassId, vp_cell cA a0 = arrV cA N' (fun _ => defaultValue .int)) (hn : ¬ n < 0) (hN : n.toNatClampNeg = N') (hbytes : N' * componentBytes .int ≤ 536870912) (hcells : cells + 1 ≤ R.cells) (hslots : slots + N' ≤ R.slots) (hdg : decode cc pc = .ok (.newarray .int, 2))
    (kk : ∀ (q : Nat) (H1 : Heap), va_P D vwCl (ws ++ [(q, .inl (kd 0, a0))]) H1 → va_D A (ws ++ [(q, .inl (kd 0, a0))]) → va_S A H0 H1 locs → W p l e R s m args below meth c H1 locs (cells + 1) (slots + N') Q (F0 m (pc + 2) ls (.ref q :: rest))) : W p l e R s m args below meth c H locs cells slots Q (F0 m pc ls (.int n :: rest)) := by
  refine va_newa hexec hb (atype := .int) harr rfl hK hP hD hS hA ha hn hN hbytes hcells hslots hdg (fun q cA H1 hK1 hP1 hD1 hS1 => ?_)
  have h1 : s.vm.findClass _ = some (kd 0) := (hK.2 0 (kd 0, .int) rfl).2
  have h2 : s.vm.findClass _ = some cA := (hK1.2 3 (cA, .int) rfl).2
  have e : cA = kd 0 := Option.some.inj (h2.symm.trans h1)
  subst e
  exact kk q H1 hP1 hD1 hS1
theorem c_newa_boolean {p : Program} {l : Launch} {e : Env} {R : Room} {s : State} {m : MethodId} {args : Array Value} {below : List Frame} {meth : Method} {c : Code} {H H0 : Heap} {locs : List Loc} {cells slots : Nat} {Q : State → Prop} {cc : ByteArray} {pc : Nat} {ls : Array Slot} {rest : List Value} {D : va_G} {kd : Nat → ClassId} {A : Nat → Prop} {ws : va_W} (hexec : p.tables.exec = Jvm.exec) (hb : c.code = cc) (harr : (Cond.arrayClass .boolean).before args s = true) (hK : va_K D vwCl (g_tys kd) s) (hP : va_P D vwCl ws H) (hD : va_D A ws) (hS : va_S A H0 H locs) (hA : ∀ q, H0.size ≤ q → A q)
    {n : Int32} {N' : Nat} {a0 : vp_A} (ha : ∀ cA : ClassId, vp_cell cA a0 = arrV cA N' (fun _ => defaultValue .boolean)) (hn : ¬ n < 0) (hN : n.toNatClampNeg = N') (hbytes : N' * componentBytes .boolean ≤ 536870912) (hcells : cells + 1 ≤ R.cells) (hslots : slots + N' ≤ R.slots) (hdg : decode cc pc = .ok (.newarray .boolean, 2))
    (kk : ∀ (q : Nat) (H1 : Heap), va_P D vwCl (ws ++ [(q, .inl (kd 1, a0))]) H1 → va_D A (ws ++ [(q, .inl (kd 1, a0))]) → va_S A H0 H1 locs → W p l e R s m args below meth c H1 locs (cells + 1) (slots + N') Q (F0 m (pc + 2) ls (.ref q :: rest))) : W p l e R s m args below meth c H locs cells slots Q (F0 m pc ls (.int n :: rest)) := by
  refine va_newa hexec hb (atype := .boolean) harr rfl hK hP hD hS hA ha hn hN hbytes hcells hslots hdg (fun q cA H1 hK1 hP1 hD1 hS1 => ?_)
  have h1 : s.vm.findClass _ = some (kd 1) := (hK.2 1 (kd 1, .boolean) rfl).2
  have h2 : s.vm.findClass _ = some cA := (hK1.2 3 (cA, .boolean) rfl).2
  have e : cA = kd 1 := Option.some.inj (h2.symm.trans h1)
  subst e
  exact kk q H1 hP1 hD1 hS1
theorem c_newa_long {p : Program} {l : Launch} {e : Env} {R : Room} {s : State} {m : MethodId} {args : Array Value} {below : List Frame} {meth : Method} {c : Code} {H H0 : Heap} {locs : List Loc} {cells slots : Nat} {Q : State → Prop} {cc : ByteArray} {pc : Nat} {ls : Array Slot} {rest : List Value} {D : va_G} {kd : Nat → ClassId} {A : Nat → Prop} {ws : va_W} (hexec : p.tables.exec = Jvm.exec) (hb : c.code = cc) (harr : (Cond.arrayClass .long).before args s = true) (hK : va_K D vwCl (g_tys kd) s) (hP : va_P D vwCl ws H) (hD : va_D A ws) (hS : va_S A H0 H locs) (hA : ∀ q, H0.size ≤ q → A q)
    {n : Int32} {N' : Nat} {a0 : vp_A} (ha : ∀ cA : ClassId, vp_cell cA a0 = arrV cA N' (fun _ => defaultValue .long)) (hn : ¬ n < 0) (hN : n.toNatClampNeg = N') (hbytes : N' * componentBytes .long ≤ 536870912) (hcells : cells + 1 ≤ R.cells) (hslots : slots + N' ≤ R.slots) (hdg : decode cc pc = .ok (.newarray .long, 2))
    (kk : ∀ (q : Nat) (H1 : Heap), va_P D vwCl (ws ++ [(q, .inl (kd 2, a0))]) H1 → va_D A (ws ++ [(q, .inl (kd 2, a0))]) → va_S A H0 H1 locs → W p l e R s m args below meth c H1 locs (cells + 1) (slots + N') Q (F0 m (pc + 2) ls (.ref q :: rest))) : W p l e R s m args below meth c H locs cells slots Q (F0 m pc ls (.int n :: rest)) := by
  refine va_newa hexec hb (atype := .long) harr rfl hK hP hD hS hA ha hn hN hbytes hcells hslots hdg (fun q cA H1 hK1 hP1 hD1 hS1 => ?_)
  have h1 : s.vm.findClass _ = some (kd 2) := (hK.2 2 (kd 2, .long) rfl).2
  have h2 : s.vm.findClass _ = some cA := (hK1.2 3 (cA, .long) rfl).2
  have e : cA = kd 2 := Option.some.inj (h2.symm.trans h1)
  subst e
  exact kk q H1 hP1 hD1 hS1
set_option maxRecDepth 100000 in
set_option maxHeartbeats 40000000 in
theorem c_X3_setLikes (l : Launch) (D : va_G) (kd : Nat → ClassId) (h0 r1 r2 r3 r4 r5 r6 r7 : Nat) (sz : Nat) : Met l yX3_setLikes (Cond.code yX3_setLikes cX3_setLikes 5 none :: wsL_law) ({ frames := 0, cells := 0, slots := 0, locals := 0 }) (va_Pc [.ref h0, .int 2, .int 3, .int 3, .int 4] (fun U => U.heap.size = sz ∧ va_P D vwCl [(h0, .inr (3, [.int 0, .int 0, .int 0, .int (-1), .int 4, .int 0, .int 0, .int 0, .int 0, .ref r1, .ref r2, .ref r3, .ref r4, .ref r5, .ref r6, .ref r7]))] U.heap ∧ va_K D vwCl (g_tys kd) U ∧ va_D (fun _ => True) [(h0, .inr (3, [.int 0, .int 0, .int 0, .int (-1), .int 4, .int 0, .int 0, .int 0, .int 0, .ref r1, .ref r2, .ref r3, .ref r4, .ref r5, .ref r6, .ref r7]))])) (va_Qv (fun _ : Unit => True) (fun _ t => va_P D vwCl [(h0, .inr (3, [.int 0, .int 0, .int 0, .int (-1), .int 4, .int 2, .int 3, .int 3, .int 4, .ref r1, .ref r2, .ref r3, .ref r4, .ref r5, .ref r6, .ref r7]))] t.heap ∧ va_K D vwCl (g_tys kd) t ∧ va_D (va_A [(h0, .inr (3, [.int 0, .int 0, .int 0, .int (-1), .int 4, .int 0, .int 0, .int 0, .int 0, .ref r1, .ref r2, .ref r3, .ref r4, .ref r5, .ref r6, .ref r7]))] sz) [(h0, .inr (3, [.int 0, .int 0, .int 0, .int (-1), .int 4, .int 2, .int 3, .int 3, .int 4, .ref r1, .ref r2, .ref r3, .ref r4, .ref r5, .ref r6, .ref r7]))]) (va_A [(h0, .inr (3, [.int 0, .int 0, .int 0, .int (-1), .int 4, .int 0, .int 0, .int 0, .int 0, .ref r1, .ref r2, .ref r3, .ref r4, .ref r5, .ref r6, .ref r7]))] sz)) 0 0 (va_A [(h0, .inr (3, [.int 0, .int 0, .int 0, .int (-1), .int 4, .int 0, .int 0, .int 0, .int 0, .ref r1, .ref r2, .ref r3, .ref r4, .ref r5, .ref r6, .ref r7]))] sz) := by
  refine Met.ofW (cc := cX3_setLikes) (maxL := 5) (ret := none) (by decide) rfl ?_
  intro p e s m args below meth c s₁ B hml hv
  obtain ⟨rfl, hsz, hP, hK, hD0⟩ := hv
  have hx := B.exec
  have hb := B.bytes
  have hr := B.returns
  have hts0 := atoms_spec (ws := Cond.code yX3_setLikes cX3_setLikes 5 none :: wsL_law) B.pre
  have hts : ∀ w ∈ wsL_law, w.before _ s = true := fun w hw => hts0 w (List.mem_cons_of_mem _ hw)
  have hown : s.vm.findClass RX3 = some m.cls := findClass_of_methodNamed B.named
  subst hsz
  have hD := hD0.self (sz := s.heap.size)
  generalize hAe : va_A [(h0, .inr (3, [.int 0, .int 0, .int 0, .int (-1), .int 4, .int 0, .int 0, .int 0, .int 0, .ref r1, .ref r2, .ref r3, .ref r4, .ref r5, .ref r6, .ref r7]))] s.heap.size = A at hD ⊢
  have hA : ∀ q : Nat, s.heap.size ≤ q → A q := fun q h => by rw [← hAe]; exact Or.inr h
  have hS : va_S A s.heap s.heap [] := va_S.rf
  have hl := lv_entry ([.ref h0, .int 2, .int 3, .int 3, .int 4]) (n := 5) (Nat.le_of_ble_eq_true rfl)
  rw [lg_entry_eq]
  generalize (lg_sl ([.ref h0, .int 2, .int 3, .int 3, .int 4]) ++ List.replicate (5 - (lg_sl ([.ref h0, .int 2, .int 3, .int 3, .int 4])).length) Slot.unset).toArray = ls at hl ⊢
  have hl : lv_has ls 5 [(0, .ref h0), (1, .int 2), (2, .int 3), (3, .int 3), (4, .int 4)] := hl
  refine lv_aload_n hx hb dX3_setLikes_0 rfl (lv_at hl 0 rfl) ?_
  refine lv_iload_n hx hb dX3_setLikes_1 rfl (lv_at hl 1 rfl) ?_
  refine va_put (D := D) (ci := 3) (v := .int 2) (ty := .int) (C := RX3) (T := TX3) (N := 16) hx hb hts inlX3 tyX3 tyX3_ok nmX3 hown hK hP hD hS 0 rfl rfl 5 (by decide) (hts _ wm_90) (fun _ h9 => h9) rfl (tyX3_ok 5 (by decide)) rfl rfl (Nat.le_of_ble_eq_true rfl) dX3_setLikes_2 (fun H locs hP hD hS => ?_)
  have hP : va_P D vwCl [(h0, .inr (3, [.int 0, .int 0, .int 0, .int (-1), .int 4, .int 2, .int 0, .int 0, .int 0, .ref r1, .ref r2, .ref r3, .ref r4, .ref r5, .ref r6, .ref r7]))] H := hP
  have hD : va_D A [(h0, .inr (3, [.int 0, .int 0, .int 0, .int (-1), .int 4, .int 2, .int 0, .int 0, .int 0, .ref r1, .ref r2, .ref r3, .ref r4, .ref r5, .ref r6, .ref r7]))] := hD
  refine lv_aload_n hx hb dX3_setLikes_5 rfl (lv_at hl 0 rfl) ?_
  refine lv_iload_n hx hb dX3_setLikes_6 rfl (lv_at hl 2 rfl) ?_
  refine va_put (D := D) (ci := 3) (v := .int 3) (ty := .int) (C := RX3) (T := TX3) (N := 16) hx hb hts inlX3 tyX3 tyX3_ok nmX3 hown hK hP hD hS 0 rfl rfl 6 (by decide) (hts _ wm_91) (fun _ h9 => h9) rfl (tyX3_ok 6 (by decide)) rfl rfl (Nat.le_of_ble_eq_true rfl) dX3_setLikes_7 (fun H locs hP hD hS => ?_)
  have hP : va_P D vwCl [(h0, .inr (3, [.int 0, .int 0, .int 0, .int (-1), .int 4, .int 2, .int 3, .int 0, .int 0, .ref r1, .ref r2, .ref r3, .ref r4, .ref r5, .ref r6, .ref r7]))] H := hP
  have hD : va_D A [(h0, .inr (3, [.int 0, .int 0, .int 0, .int (-1), .int 4, .int 2, .int 3, .int 0, .int 0, .ref r1, .ref r2, .ref r3, .ref r4, .ref r5, .ref r6, .ref r7]))] := hD
  refine lv_aload_n hx hb dX3_setLikes_10 rfl (lv_at hl 0 rfl) ?_
  refine lv_iload_n hx hb dX3_setLikes_11 rfl (lv_at hl 3 rfl) ?_
  refine va_put (D := D) (ci := 3) (v := .int 3) (ty := .int) (C := RX3) (T := TX3) (N := 16) hx hb hts inlX3 tyX3 tyX3_ok nmX3 hown hK hP hD hS 0 rfl rfl 7 (by decide) (hts _ wm_92) (fun _ h9 => h9) rfl (tyX3_ok 7 (by decide)) rfl rfl (Nat.le_of_ble_eq_true rfl) dX3_setLikes_12 (fun H locs hP hD hS => ?_)
  have hP : va_P D vwCl [(h0, .inr (3, [.int 0, .int 0, .int 0, .int (-1), .int 4, .int 2, .int 3, .int 3, .int 0, .ref r1, .ref r2, .ref r3, .ref r4, .ref r5, .ref r6, .ref r7]))] H := hP
  have hD : va_D A [(h0, .inr (3, [.int 0, .int 0, .int 0, .int (-1), .int 4, .int 2, .int 3, .int 3, .int 0, .ref r1, .ref r2, .ref r3, .ref r4, .ref r5, .ref r6, .ref r7]))] := hD
  refine lv_aload_n hx hb dX3_setLikes_15 rfl (lv_at hl 0 rfl) ?_
  refine lv_iload hx hb dX3_setLikes_16 (lv_at hl 4 rfl) ?_
  refine va_put (D := D) (ci := 3) (v := .int 4) (ty := .int) (C := RX3) (T := TX3) (N := 16) hx hb hts inlX3 tyX3 tyX3_ok nmX3 hown hK hP hD hS 0 rfl rfl 8 (by decide) (hts _ wm_93) (fun _ h9 => h9) rfl (tyX3_ok 8 (by decide)) rfl rfl (Nat.le_of_ble_eq_true rfl) dX3_setLikes_18 (fun H locs hP hD hS => ?_)
  have hP : va_P D vwCl [(h0, .inr (3, [.int 0, .int 0, .int 0, .int (-1), .int 4, .int 2, .int 3, .int 3, .int 4, .ref r1, .ref r2, .ref r3, .ref r4, .ref r5, .ref r6, .ref r7]))] H := hP
  have hD : va_D A [(h0, .inr (3, [.int 0, .int 0, .int 0, .int (-1), .int 4, .int 2, .int 3, .int 3, .int 4, .ref r1, .ref r2, .ref r3, .ref r4, .ref r5, .ref r6, .ref r7]))] := hD
  have hP9 := hP.sub (ws' := [(h0, .inr (3, [.int 0, .int 0, .int 0, .int (-1), .int 4, .int 2, .int 3, .int 3, .int 4, .ref r1, .ref r2, .ref r3, .ref r4, .ref r5, .ref r6, .ref r7]))]) [0] rfl
  have hD9 := hD.sub (ws' := [(h0, .inr (3, [.int 0, .int 0, .int 0, .int (-1), .int 4, .int 2, .int 3, .int 3, .int 4, .ref r1, .ref r2, .ref r3, .ref r4, .ref r5, .ref r6, .ref r7]))]) [0] (by decide) rfl
  exact W.vret hx hb hr (fun t ht hW => ⟨⟨(), rfl, trivial, by rw [ht]; exact hP9, va_K.moved hW.alike hK, hD9⟩, hS.F ht⟩) hS.2.2 dX3_setLikes_21
theorem glc_X3_52 : g_L RX3 52 yX3_setLikes cX3_setLikes 5 none 4 := ⟨wm_89, wm_86, wm_23, by decide, by decide, by decide +kernel⟩
set_option maxRecDepth 100000 in
set_option maxHeartbeats 40000000 in
theorem c_X3_clear (l : Launch) (D : va_G) (kd : Nat → ClassId) (h0 r1 r2 r3 r4 r5 r6 r7 : Nat) (sz : Nat) : Met l yX3_clear (Cond.code yX3_clear cX3_clear 1 none :: wsL_law) ({ frames := 1, cells := 0, slots := 0, locals := 24 }) (va_Pc [.ref h0] (fun U => U.heap.size = sz ∧ va_P D vwCl [(h0, .inr (3, [.int 0, .int 0, .int 0, .int 0, .int 0, .int 0, .int 0, .int 0, .int 0, .ref r1, .ref r2, .ref r3, .ref r4, .ref r5, .ref r6, .ref r7]))] U.heap ∧ va_K D vwCl (g_tys kd) U ∧ va_D (fun _ => True) [(h0, .inr (3, [.int 0, .int 0, .int 0, .int 0, .int 0, .int 0, .int 0, .int 0, .int 0, .ref r1, .ref r2, .ref r3, .ref r4, .ref r5, .ref r6, .ref r7]))])) (va_Qv (fun _ : Unit => True) (fun _ t => va_P D vwCl [(h0, .inr (3, [.int 0, .int 0, .int 0, .int (-1), .int 4, .int 2, .int 3, .int 3, .int 4, .ref r1, .ref r2, .ref r3, .ref r4, .ref r5, .ref r6, .ref r7]))] t.heap ∧ va_K D vwCl (g_tys kd) t ∧ va_D (va_A [(h0, .inr (3, [.int 0, .int 0, .int 0, .int 0, .int 0, .int 0, .int 0, .int 0, .int 0, .ref r1, .ref r2, .ref r3, .ref r4, .ref r5, .ref r6, .ref r7]))] sz) [(h0, .inr (3, [.int 0, .int 0, .int 0, .int (-1), .int 4, .int 2, .int 3, .int 3, .int 4, .ref r1, .ref r2, .ref r3, .ref r4, .ref r5, .ref r6, .ref r7]))]) (va_A [(h0, .inr (3, [.int 0, .int 0, .int 0, .int 0, .int 0, .int 0, .int 0, .int 0, .int 0, .ref r1, .ref r2, .ref r3, .ref r4, .ref r5, .ref r6, .ref r7]))] sz)) 0 0 (va_A [(h0, .inr (3, [.int 0, .int 0, .int 0, .int 0, .int 0, .int 0, .int 0, .int 0, .int 0, .ref r1, .ref r2, .ref r3, .ref r4, .ref r5, .ref r6, .ref r7]))] sz) := by
  refine Met.ofW (cc := cX3_clear) (maxL := 1) (ret := none) (by decide) rfl ?_
  intro p e s m args below meth c s₁ B hml hv
  obtain ⟨rfl, hsz, hP, hK, hD0⟩ := hv
  have hx := B.exec
  have hb := B.bytes
  have hr := B.returns
  have hts0 := atoms_spec (ws := Cond.code yX3_clear cX3_clear 1 none :: wsL_law) B.pre
  have hts : ∀ w ∈ wsL_law, w.before _ s = true := fun w hw => hts0 w (List.mem_cons_of_mem _ hw)
  have hown : s.vm.findClass RX3 = some m.cls := findClass_of_methodNamed B.named
  subst hsz
  have hD := hD0.self (sz := s.heap.size)
  generalize hAe : va_A [(h0, .inr (3, [.int 0, .int 0, .int 0, .int 0, .int 0, .int 0, .int 0, .int 0, .int 0, .ref r1, .ref r2, .ref r3, .ref r4, .ref r5, .ref r6, .ref r7]))] s.heap.size = A at hD ⊢
  have hA : ∀ q : Nat, s.heap.size ≤ q → A q := fun q h => by rw [← hAe]; exact Or.inr h
  have hS : va_S A s.heap s.heap [] := va_S.rf
  have hl := lv_entry ([.ref h0]) (n := 1) (Nat.le_of_ble_eq_true rfl)
  rw [lg_entry_eq]
  generalize (lg_sl ([.ref h0]) ++ List.replicate (1 - (lg_sl ([.ref h0])).length) Slot.unset).toArray = ls at hl ⊢
  have hl : lv_has ls 1 [(0, .ref h0)] := hl
  refine lv_aload_n hx hb dX3_clear_0 rfl (lv_at hl 0 rfl) ?_
  refine lv_iconst (v := 0) hx hb dX3_clear_1 (by decide) ?_
  refine va_put (D := D) (ci := 3) (v := .int 0) (ty := .int) (C := RX3) (T := TX3) (N := 16) hx hb hts inlX3 tyX3 tyX3_ok nmX3 hown hK hP hD hS 0 rfl rfl 0 (by decide) (hts _ wm_81) (fun _ h9 => h9) rfl (tyX3_ok 0 (by decide)) rfl rfl (Nat.le_of_ble_eq_true rfl) dX3_clear_2 (fun H locs hP hD hS => ?_)
  have hP : va_P D vwCl [(h0, .inr (3, [.int 0, .int 0, .int 0, .int 0, .int 0, .int 0, .int 0, .int 0, .int 0, .ref r1, .ref r2, .ref r3, .ref r4, .ref r5, .ref r6, .ref r7]))] H := hP
  have hD : va_D A [(h0, .inr (3, [.int 0, .int 0, .int 0, .int 0, .int 0, .int 0, .int 0, .int 0, .int 0, .ref r1, .ref r2, .ref r3, .ref r4, .ref r5, .ref r6, .ref r7]))] := hD
  refine lv_aload_n hx hb dX3_clear_5 rfl (lv_at hl 0 rfl) ?_
  refine lv_iconst (v := 0) hx hb dX3_clear_6 (by decide) ?_
  refine va_put (D := D) (ci := 3) (v := .int 0) (ty := .int) (C := RX3) (T := TX3) (N := 16) hx hb hts inlX3 tyX3 tyX3_ok nmX3 hown hK hP hD hS 0 rfl rfl 1 (by decide) (hts _ wm_82) (fun _ h9 => h9) rfl (tyX3_ok 1 (by decide)) rfl rfl (Nat.le_of_ble_eq_true rfl) dX3_clear_7 (fun H locs hP hD hS => ?_)
  have hP : va_P D vwCl [(h0, .inr (3, [.int 0, .int 0, .int 0, .int 0, .int 0, .int 0, .int 0, .int 0, .int 0, .ref r1, .ref r2, .ref r3, .ref r4, .ref r5, .ref r6, .ref r7]))] H := hP
  have hD : va_D A [(h0, .inr (3, [.int 0, .int 0, .int 0, .int 0, .int 0, .int 0, .int 0, .int 0, .int 0, .ref r1, .ref r2, .ref r3, .ref r4, .ref r5, .ref r6, .ref r7]))] := hD
  refine lv_aload_n hx hb dX3_clear_10 rfl (lv_at hl 0 rfl) ?_
  refine lv_iconst (v := 0) hx hb dX3_clear_11 (by decide) ?_
  refine va_put (D := D) (ci := 3) (v := .int 0) (ty := .int) (C := RX3) (T := TX3) (N := 16) hx hb hts inlX3 tyX3 tyX3_ok nmX3 hown hK hP hD hS 0 rfl rfl 2 (by decide) (hts _ wm_83) (fun _ h9 => h9) rfl (tyX3_ok 2 (by decide)) rfl rfl (Nat.le_of_ble_eq_true rfl) dX3_clear_12 (fun H locs hP hD hS => ?_)
  have hP : va_P D vwCl [(h0, .inr (3, [.int 0, .int 0, .int 0, .int 0, .int 0, .int 0, .int 0, .int 0, .int 0, .ref r1, .ref r2, .ref r3, .ref r4, .ref r5, .ref r6, .ref r7]))] H := hP
  have hD : va_D A [(h0, .inr (3, [.int 0, .int 0, .int 0, .int 0, .int 0, .int 0, .int 0, .int 0, .int 0, .ref r1, .ref r2, .ref r3, .ref r4, .ref r5, .ref r6, .ref r7]))] := hD
  refine lv_aload_n hx hb dX3_clear_15 rfl (lv_at hl 0 rfl) ?_
  refine lv_iconst (v := (-1)) hx hb dX3_clear_16 (by decide) ?_
  refine va_put (D := D) (ci := 3) (v := .int (-1)) (ty := .int) (C := RX3) (T := TX3) (N := 16) hx hb hts inlX3 tyX3 tyX3_ok nmX3 hown hK hP hD hS 0 rfl rfl 3 (by decide) (hts _ wm_84) (fun _ h9 => h9) rfl (tyX3_ok 3 (by decide)) rfl rfl (Nat.le_of_ble_eq_true rfl) dX3_clear_17 (fun H locs hP hD hS => ?_)
  have hP : va_P D vwCl [(h0, .inr (3, [.int 0, .int 0, .int 0, .int (-1), .int 0, .int 0, .int 0, .int 0, .int 0, .ref r1, .ref r2, .ref r3, .ref r4, .ref r5, .ref r6, .ref r7]))] H := hP
  have hD : va_D A [(h0, .inr (3, [.int 0, .int 0, .int 0, .int (-1), .int 0, .int 0, .int 0, .int 0, .int 0, .ref r1, .ref r2, .ref r3, .ref r4, .ref r5, .ref r6, .ref r7]))] := hD
  refine lv_aload_n hx hb dX3_clear_20 rfl (lv_at hl 0 rfl) ?_
  refine lv_iconst (v := 4) hx hb dX3_clear_21 (by decide) ?_
  refine va_put (D := D) (ci := 3) (v := .int 4) (ty := .int) (C := RX3) (T := TX3) (N := 16) hx hb hts inlX3 tyX3 tyX3_ok nmX3 hown hK hP hD hS 0 rfl rfl 4 (by decide) (hts _ wm_85) (fun _ h9 => h9) rfl (tyX3_ok 4 (by decide)) rfl rfl (Nat.le_of_ble_eq_true rfl) dX3_clear_22 (fun H locs hP hD hS => ?_)
  have hP : va_P D vwCl [(h0, .inr (3, [.int 0, .int 0, .int 0, .int (-1), .int 4, .int 0, .int 0, .int 0, .int 0, .ref r1, .ref r2, .ref r3, .ref r4, .ref r5, .ref r6, .ref r7]))] H := hP
  have hD : va_D A [(h0, .inr (3, [.int 0, .int 0, .int 0, .int (-1), .int 4, .int 0, .int 0, .int 0, .int 0, .ref r1, .ref r2, .ref r3, .ref r4, .ref r5, .ref r6, .ref r7]))] := hD
  refine lv_aload_n hx hb dX3_clear_25 rfl (lv_at hl 0 rfl) ?_
  refine lv_iconst (v := 2) hx hb dX3_clear_26 (by decide) ?_
  refine lv_iconst (v := 3) hx hb dX3_clear_27 (by decide) ?_
  refine lv_iconst (v := 3) hx hb dX3_clear_28 (by decide) ?_
  refine lv_iconst (v := 4) hx hb dX3_clear_29 (by decide) ?_
  have hPc := hP.sub (ws' := [(h0, .inr (3, [.int 0, .int 0, .int 0, .int (-1), .int 4, .int 0, .int 0, .int 0, .int 0, .ref r1, .ref r2, .ref r3, .ref r4, .ref r5, .ref r6, .ref r7]))]) [0] rfl
  have hDc := hD.sub (ws' := [(h0, .inr (3, [.int 0, .int 0, .int 0, .int (-1), .int 4, .int 0, .int 0, .int 0, .int 0, .ref r1, .ref r2, .ref r3, .ref r4, .ref r5, .ref r6, .ref r7]))]) [0] (by decide) rfl
  have hFc := va_free (wc := [(h0, .inr (3, [.int 0, .int 0, .int 0, .int (-1), .int 4, .int 0, .int 0, .int 0, .int 0, .ref r1, .ref r2, .ref r3, .ref r4, .ref r5, .ref r6, .ref r7]))]) hD hS hA [0] rfl
  refine va_callv (va_runV (As := [.int 2, .int 3, .int 3, .int 4]) (rest := []) ⟨hx, hb, hml, hown, hts⟩ (c_X3_setLikes l D kd h0 r1 r2 r3 r4 r5 r6 r7 H.size) ⟨g_callR glc_X3_52 hts rfl rfl (Nat.le_of_ble_eq_true rfl) (Nat.le_of_ble_eq_true rfl), hts _ wm_87, hts _ wm_88⟩ ⟨c_blind, va_recv hK hPc (ci := 3) (q0 := 0) rfl rfl, fun U hU hW => ⟨rfl, by rw [hU], by rw [hU]; exact hPc, va_K.moved hW.alike hK, hDc.weaken (fun _ _ _ _ => trivial)⟩⟩ rfl rfl hl.1 rfl (lv_room (Nat.le_of_ble_eq_true rfl)) dX3_clear_30 ⟨Nat.le_of_ble_eq_true rfl, Nat.le_of_ble_eq_true rfl⟩) hS (fun q _ h => hFc q h) hFc (fun u t H1 locs ht hvm hw hB hz1 hk1 hS => ?_)
  obtain ⟨hP1, hK1, hD1⟩ := hB
  rw [ht] at hP1
  obtain ⟨hP, hD⟩ := va_join (wr := []) (w1 := [(h0, .inr (3, [.int 0, .int 0, .int 0, .int (-1), .int 4, .int 2, .int 3, .int 3, .int 4, .ref r1, .ref r2, .ref r3, .ref r4, .ref r5, .ref r6, .ref r7]))]) hP hD [0] [] rfl rfl (by decide) (by decide) hk1 hFc hP1 hD1
  clear hP1 hK1 hD1 hPc hDc hFc hk1 hz1
  generalize H1 = H at hP hS ⊢
  have hP : va_P D vwCl [(h0, .inr (3, [.int 0, .int 0, .int 0, .int (-1), .int 4, .int 2, .int 3, .int 3, .int 4, .ref r1, .ref r2, .ref r3, .ref r4, .ref r5, .ref r6, .ref r7]))] H := hP
  have hD : va_D A [(h0, .inr (3, [.int 0, .int 0, .int 0, .int (-1), .int 4, .int 2, .int 3, .int 3, .int 4, .ref r1, .ref r2, .ref r3, .ref r4, .ref r5, .ref r6, .ref r7]))] := hD
  have hP9 := hP.sub (ws' := [(h0, .inr (3, [.int 0, .int 0, .int 0, .int (-1), .int 4, .int 2, .int 3, .int 3, .int 4, .ref r1, .ref r2, .ref r3, .ref r4, .ref r5, .ref r6, .ref r7]))]) [0] rfl
  have hD9 := hD.sub (ws' := [(h0, .inr (3, [.int 0, .int 0, .int 0, .int (-1), .int 4, .int 2, .int 3, .int 3, .int 4, .ref r1, .ref r2, .ref r3, .ref r4, .ref r5, .ref r6, .ref r7]))]) [0] (by decide) rfl
  exact W.vret hx hb hr (fun t ht hW => ⟨⟨(), rfl, trivial, by rw [ht]; exact hP9, va_K.moved hW.alike hK, hD9⟩, hS.F ht⟩) hS.2.2 dX3_clear_33
theorem glc_X3_33 : g_L RX3 33 yX3_clear cX3_clear 1 none 0 := ⟨wm_80, wm_77, wm_23, by decide, by decide, by decide +kernel⟩
set_option maxRecDepth 100000 in
set_option maxHeartbeats 40000000 in
theorem c_X3_init (l : Launch) (D : va_G) (kd : Nat → ClassId) (h0 : Nat) (sz : Nat) : Met l yX3_init (Cond.code yX3_init cX3_init 1 none :: wsL_law) ({ frames := 2, cells := 7, slots := 440, locals := 44 }) (va_Pc [.ref h0] (fun U => U.heap.size = sz ∧ va_P D vwCl [(h0, .inr (3, [.int 0, .int 0, .int 0, .int 0, .int 0, .int 0, .int 0, .int 0, .int 0, .null, .null, .null, .null, .null, .null, .null]))] U.heap ∧ va_K D vwCl (g_tys kd) U ∧ va_D (fun _ => True) [(h0, .inr (3, [.int 0, .int 0, .int 0, .int 0, .int 0, .int 0, .int 0, .int 0, .int 0, .null, .null, .null, .null, .null, .null, .null]))])) (va_Qv (fun _ : Unit => True) (fun _ t => ∃ q0 q1 q2 q3 q4 q5 q6, va_P D vwCl [(h0, .inr (3, [.int 0, .int 0, .int 0, .int (-1), .int 4, .int 2, .int 3, .int 3, .int 4, .ref q0, .ref q1, .ref q2, .ref q3, .ref q4, .ref q5, .ref q6])), (q0, .inl (kd 0, 40, .inl fun _ => 0)), (q1, .inl (kd 0, 40, .inl fun _ => 0)), (q2, .inl (kd 0, 40, .inl fun _ => 0)), (q3, .inl (kd 0, 40, .inl fun _ => 0)), (q4, .inl (kd 0, 40, .inl fun _ => 0)), (q5, .inl (kd 0, 200, .inl fun _ => 0)), (q6, .inl (kd 0, 40, .inl fun _ => 0))] t.heap ∧ va_K D vwCl (g_tys kd) t ∧ va_D (va_A [(h0, .inr (3, [.int 0, .int 0, .int 0, .int 0, .int 0, .int 0, .int 0, .int 0, .int 0, .null, .null, .null, .null, .null, .null, .null]))] sz) [(h0, .inr (3, [.int 0, .int 0, .int 0, .int (-1), .int 4, .int 2, .int 3, .int 3, .int 4, .ref q0, .ref q1, .ref q2, .ref q3, .ref q4, .ref q5, .ref q6])), (q0, .inl (kd 0, 40, .inl fun _ => 0)), (q1, .inl (kd 0, 40, .inl fun _ => 0)), (q2, .inl (kd 0, 40, .inl fun _ => 0)), (q3, .inl (kd 0, 40, .inl fun _ => 0)), (q4, .inl (kd 0, 40, .inl fun _ => 0)), (q5, .inl (kd 0, 200, .inl fun _ => 0)), (q6, .inl (kd 0, 40, .inl fun _ => 0))]) (va_A [(h0, .inr (3, [.int 0, .int 0, .int 0, .int 0, .int 0, .int 0, .int 0, .int 0, .int 0, .null, .null, .null, .null, .null, .null, .null]))] sz)) 7 440 (va_A [(h0, .inr (3, [.int 0, .int 0, .int 0, .int 0, .int 0, .int 0, .int 0, .int 0, .int 0, .null, .null, .null, .null, .null, .null, .null]))] sz) := by
  refine Met.ofW (cc := cX3_init) (maxL := 1) (ret := none) (by decide) rfl ?_
  intro p e s m args below meth c s₁ B hml hv
  obtain ⟨rfl, hsz, hP, hK, hD0⟩ := hv
  have hx := B.exec
  have hb := B.bytes
  have hr := B.returns
  have hts0 := atoms_spec (ws := Cond.code yX3_init cX3_init 1 none :: wsL_law) B.pre
  have hts : ∀ w ∈ wsL_law, w.before _ s = true := fun w hw => hts0 w (List.mem_cons_of_mem _ hw)
  have hown : s.vm.findClass RX3 = some m.cls := findClass_of_methodNamed B.named
  have hin : meth.name = "<init>" := (name_of_methodNamed B.named B.method).1
  subst hsz
  have hD := hD0.self (sz := s.heap.size)
  generalize hAe : va_A [(h0, .inr (3, [.int 0, .int 0, .int 0, .int 0, .int 0, .int 0, .int 0, .int 0, .int 0, .null, .null, .null, .null, .null, .null, .null]))] s.heap.size = A at hD ⊢
  have hA : ∀ q : Nat, s.heap.size ≤ q → A q := fun q h => by rw [← hAe]; exact Or.inr h
  have hS : va_S A s.heap s.heap [] := va_S.rf
  have hl := lv_entry ([.ref h0]) (n := 1) (Nat.le_of_ble_eq_true rfl)
  rw [lg_entry_eq]
  generalize (lg_sl ([.ref h0]) ++ List.replicate (1 - (lg_sl ([.ref h0])).length) Slot.unset).toArray = ls at hl ⊢
  have hl : lv_has ls 1 [(0, .ref h0)] := hl
  refine lv_aload_n hx hb dX3_init_0 rfl (lv_at hl 0 rfl) ?_
  refine W.objInit hx hb hown (hts _ wm_69) (hts _ wm_11) (hts _ wm_12) rfl (by rw [hml]; exact hl.1) rfl dX3_init_1 (Nat.le_of_ble_eq_true rfl) (Nat.le_of_ble_eq_true rfl) ?_
  refine W.eq (g2 := F0 m 4 ls []) rfl ?_
  refine lv_aload_n hx hb dX3_init_4 rfl (lv_at hl 0 rfl) ?_
  refine lv_bipush (v := 40) hx hb dX3_init_5 (by decide) ?_
  refine c_newa_int (a0 := (40, .inl fun _ => 0)) hx hb (hts _ wm_53) hK hP hD hS hA (fun _ => rfl) (by decide) (by decide) (by decide) (Nat.le_of_ble_eq_true rfl) (Nat.le_of_ble_eq_true rfl) dX3_init_7 (fun q0 H hP hD hS => ?_)
  have hP : va_P D vwCl [(h0, .inr (3, [.int 0, .int 0, .int 0, .int 0, .int 0, .int 0, .int 0, .int 0, .int 0, .null, .null, .null, .null, .null, .null, .null])), (q0, .inl (kd 0, 40, .inl fun _ => 0))] H := hP
  have hD : va_D A [(h0, .inr (3, [.int 0, .int 0, .int 0, .int 0, .int 0, .int 0, .int 0, .int 0, .int 0, .null, .null, .null, .null, .null, .null, .null])), (q0, .inl (kd 0, 40, .inl fun _ => 0))] := hD
  refine W.widen (k := 1) (n := 40) (by omega) (by omega) ?_
  refine va_putF (D := D) (ci := 3) (v := .ref q0) (ty := tyX3 9) (C := RX3) (T := TX3) (N := 16) hx hb hts inlX3 tyX3 tyX3_ok nmX3 hown hK hP hD hS 0 rfl rfl 9 (by decide) (hts _ wm_70) (fun _ h9 => h9) rfl hin rfl (tyX3_ok 9 (by decide)) rfl rfl (Nat.le_of_ble_eq_true rfl) dX3_init_9 (fun H locs hP hD hS => ?_)
  have hP : va_P D vwCl [(h0, .inr (3, [.int 0, .int 0, .int 0, .int 0, .int 0, .int 0, .int 0, .int 0, .int 0, .ref q0, .null, .null, .null, .null, .null, .null])), (q0, .inl (kd 0, 40, .inl fun _ => 0))] H := hP
  have hD : va_D A [(h0, .inr (3, [.int 0, .int 0, .int 0, .int 0, .int 0, .int 0, .int 0, .int 0, .int 0, .ref q0, .null, .null, .null, .null, .null, .null])), (q0, .inl (kd 0, 40, .inl fun _ => 0))] := hD
  refine lv_aload_n hx hb dX3_init_12 rfl (lv_at hl 0 rfl) ?_
  refine lv_bipush (v := 40) hx hb dX3_init_13 (by decide) ?_
  refine c_newa_int (a0 := (40, .inl fun _ => 0)) hx hb (hts _ wm_53) hK hP hD hS hA (fun _ => rfl) (by decide) (by decide) (by decide) (Nat.le_of_ble_eq_true rfl) (Nat.le_of_ble_eq_true rfl) dX3_init_15 (fun q1 H hP hD hS => ?_)
  have hP : va_P D vwCl [(h0, .inr (3, [.int 0, .int 0, .int 0, .int 0, .int 0, .int 0, .int 0, .int 0, .int 0, .ref q0, .null, .null, .null, .null, .null, .null])), (q0, .inl (kd 0, 40, .inl fun _ => 0)), (q1, .inl (kd 0, 40, .inl fun _ => 0))] H := hP
  have hD : va_D A [(h0, .inr (3, [.int 0, .int 0, .int 0, .int 0, .int 0, .int 0, .int 0, .int 0, .int 0, .ref q0, .null, .null, .null, .null, .null, .null])), (q0, .inl (kd 0, 40, .inl fun _ => 0)), (q1, .inl (kd 0, 40, .inl fun _ => 0))] := hD
  refine W.widen (k := 2) (n := 80) (by omega) (by omega) ?_
  refine va_putF (D := D) (ci := 3) (v := .ref q1) (ty := tyX3 10) (C := RX3) (T := TX3) (N := 16) hx hb hts inlX3 tyX3 tyX3_ok nmX3 hown hK hP hD hS 0 rfl rfl 10 (by decide) (hts _ wm_71) (fun _ h9 => h9) rfl hin rfl (tyX3_ok 10 (by decide)) rfl rfl (Nat.le_of_ble_eq_true rfl) dX3_init_17 (fun H locs hP hD hS => ?_)
  have hP : va_P D vwCl [(h0, .inr (3, [.int 0, .int 0, .int 0, .int 0, .int 0, .int 0, .int 0, .int 0, .int 0, .ref q0, .ref q1, .null, .null, .null, .null, .null])), (q0, .inl (kd 0, 40, .inl fun _ => 0)), (q1, .inl (kd 0, 40, .inl fun _ => 0))] H := hP
  have hD : va_D A [(h0, .inr (3, [.int 0, .int 0, .int 0, .int 0, .int 0, .int 0, .int 0, .int 0, .int 0, .ref q0, .ref q1, .null, .null, .null, .null, .null])), (q0, .inl (kd 0, 40, .inl fun _ => 0)), (q1, .inl (kd 0, 40, .inl fun _ => 0))] := hD
  refine lv_aload_n hx hb dX3_init_20 rfl (lv_at hl 0 rfl) ?_
  refine lv_bipush (v := 40) hx hb dX3_init_21 (by decide) ?_
  refine c_newa_int (a0 := (40, .inl fun _ => 0)) hx hb (hts _ wm_53) hK hP hD hS hA (fun _ => rfl) (by decide) (by decide) (by decide) (Nat.le_of_ble_eq_true rfl) (Nat.le_of_ble_eq_true rfl) dX3_init_23 (fun q2 H hP hD hS => ?_)
  have hP : va_P D vwCl [(h0, .inr (3, [.int 0, .int 0, .int 0, .int 0, .int 0, .int 0, .int 0, .int 0, .int 0, .ref q0, .ref q1, .null, .null, .null, .null, .null])), (q0, .inl (kd 0, 40, .inl fun _ => 0)), (q1, .inl (kd 0, 40, .inl fun _ => 0)), (q2, .inl (kd 0, 40, .inl fun _ => 0))] H := hP
  have hD : va_D A [(h0, .inr (3, [.int 0, .int 0, .int 0, .int 0, .int 0, .int 0, .int 0, .int 0, .int 0, .ref q0, .ref q1, .null, .null, .null, .null, .null])), (q0, .inl (kd 0, 40, .inl fun _ => 0)), (q1, .inl (kd 0, 40, .inl fun _ => 0)), (q2, .inl (kd 0, 40, .inl fun _ => 0))] := hD
  refine W.widen (k := 3) (n := 120) (by omega) (by omega) ?_
  refine va_putF (D := D) (ci := 3) (v := .ref q2) (ty := tyX3 11) (C := RX3) (T := TX3) (N := 16) hx hb hts inlX3 tyX3 tyX3_ok nmX3 hown hK hP hD hS 0 rfl rfl 11 (by decide) (hts _ wm_72) (fun _ h9 => h9) rfl hin rfl (tyX3_ok 11 (by decide)) rfl rfl (Nat.le_of_ble_eq_true rfl) dX3_init_25 (fun H locs hP hD hS => ?_)
  have hP : va_P D vwCl [(h0, .inr (3, [.int 0, .int 0, .int 0, .int 0, .int 0, .int 0, .int 0, .int 0, .int 0, .ref q0, .ref q1, .ref q2, .null, .null, .null, .null])), (q0, .inl (kd 0, 40, .inl fun _ => 0)), (q1, .inl (kd 0, 40, .inl fun _ => 0)), (q2, .inl (kd 0, 40, .inl fun _ => 0))] H := hP
  have hD : va_D A [(h0, .inr (3, [.int 0, .int 0, .int 0, .int 0, .int 0, .int 0, .int 0, .int 0, .int 0, .ref q0, .ref q1, .ref q2, .null, .null, .null, .null])), (q0, .inl (kd 0, 40, .inl fun _ => 0)), (q1, .inl (kd 0, 40, .inl fun _ => 0)), (q2, .inl (kd 0, 40, .inl fun _ => 0))] := hD
  refine lv_aload_n hx hb dX3_init_28 rfl (lv_at hl 0 rfl) ?_
  refine lv_bipush (v := 40) hx hb dX3_init_29 (by decide) ?_
  refine c_newa_int (a0 := (40, .inl fun _ => 0)) hx hb (hts _ wm_53) hK hP hD hS hA (fun _ => rfl) (by decide) (by decide) (by decide) (Nat.le_of_ble_eq_true rfl) (Nat.le_of_ble_eq_true rfl) dX3_init_31 (fun q3 H hP hD hS => ?_)
  have hP : va_P D vwCl [(h0, .inr (3, [.int 0, .int 0, .int 0, .int 0, .int 0, .int 0, .int 0, .int 0, .int 0, .ref q0, .ref q1, .ref q2, .null, .null, .null, .null])), (q0, .inl (kd 0, 40, .inl fun _ => 0)), (q1, .inl (kd 0, 40, .inl fun _ => 0)), (q2, .inl (kd 0, 40, .inl fun _ => 0)), (q3, .inl (kd 0, 40, .inl fun _ => 0))] H := hP
  have hD : va_D A [(h0, .inr (3, [.int 0, .int 0, .int 0, .int 0, .int 0, .int 0, .int 0, .int 0, .int 0, .ref q0, .ref q1, .ref q2, .null, .null, .null, .null])), (q0, .inl (kd 0, 40, .inl fun _ => 0)), (q1, .inl (kd 0, 40, .inl fun _ => 0)), (q2, .inl (kd 0, 40, .inl fun _ => 0)), (q3, .inl (kd 0, 40, .inl fun _ => 0))] := hD
  refine W.widen (k := 4) (n := 160) (by omega) (by omega) ?_
  refine va_putF (D := D) (ci := 3) (v := .ref q3) (ty := tyX3 12) (C := RX3) (T := TX3) (N := 16) hx hb hts inlX3 tyX3 tyX3_ok nmX3 hown hK hP hD hS 0 rfl rfl 12 (by decide) (hts _ wm_73) (fun _ h9 => h9) rfl hin rfl (tyX3_ok 12 (by decide)) rfl rfl (Nat.le_of_ble_eq_true rfl) dX3_init_33 (fun H locs hP hD hS => ?_)
  have hP : va_P D vwCl [(h0, .inr (3, [.int 0, .int 0, .int 0, .int 0, .int 0, .int 0, .int 0, .int 0, .int 0, .ref q0, .ref q1, .ref q2, .ref q3, .null, .null, .null])), (q0, .inl (kd 0, 40, .inl fun _ => 0)), (q1, .inl (kd 0, 40, .inl fun _ => 0)), (q2, .inl (kd 0, 40, .inl fun _ => 0)), (q3, .inl (kd 0, 40, .inl fun _ => 0))] H := hP
  have hD : va_D A [(h0, .inr (3, [.int 0, .int 0, .int 0, .int 0, .int 0, .int 0, .int 0, .int 0, .int 0, .ref q0, .ref q1, .ref q2, .ref q3, .null, .null, .null])), (q0, .inl (kd 0, 40, .inl fun _ => 0)), (q1, .inl (kd 0, 40, .inl fun _ => 0)), (q2, .inl (kd 0, 40, .inl fun _ => 0)), (q3, .inl (kd 0, 40, .inl fun _ => 0))] := hD
  refine lv_aload_n hx hb dX3_init_36 rfl (lv_at hl 0 rfl) ?_
  refine lv_bipush (v := 40) hx hb dX3_init_37 (by decide) ?_
  refine c_newa_int (a0 := (40, .inl fun _ => 0)) hx hb (hts _ wm_53) hK hP hD hS hA (fun _ => rfl) (by decide) (by decide) (by decide) (Nat.le_of_ble_eq_true rfl) (Nat.le_of_ble_eq_true rfl) dX3_init_39 (fun q4 H hP hD hS => ?_)
  have hP : va_P D vwCl [(h0, .inr (3, [.int 0, .int 0, .int 0, .int 0, .int 0, .int 0, .int 0, .int 0, .int 0, .ref q0, .ref q1, .ref q2, .ref q3, .null, .null, .null])), (q0, .inl (kd 0, 40, .inl fun _ => 0)), (q1, .inl (kd 0, 40, .inl fun _ => 0)), (q2, .inl (kd 0, 40, .inl fun _ => 0)), (q3, .inl (kd 0, 40, .inl fun _ => 0)), (q4, .inl (kd 0, 40, .inl fun _ => 0))] H := hP
  have hD : va_D A [(h0, .inr (3, [.int 0, .int 0, .int 0, .int 0, .int 0, .int 0, .int 0, .int 0, .int 0, .ref q0, .ref q1, .ref q2, .ref q3, .null, .null, .null])), (q0, .inl (kd 0, 40, .inl fun _ => 0)), (q1, .inl (kd 0, 40, .inl fun _ => 0)), (q2, .inl (kd 0, 40, .inl fun _ => 0)), (q3, .inl (kd 0, 40, .inl fun _ => 0)), (q4, .inl (kd 0, 40, .inl fun _ => 0))] := hD
  refine W.widen (k := 5) (n := 200) (by omega) (by omega) ?_
  refine va_putF (D := D) (ci := 3) (v := .ref q4) (ty := tyX3 13) (C := RX3) (T := TX3) (N := 16) hx hb hts inlX3 tyX3 tyX3_ok nmX3 hown hK hP hD hS 0 rfl rfl 13 (by decide) (hts _ wm_74) (fun _ h9 => h9) rfl hin rfl (tyX3_ok 13 (by decide)) rfl rfl (Nat.le_of_ble_eq_true rfl) dX3_init_41 (fun H locs hP hD hS => ?_)
  have hP : va_P D vwCl [(h0, .inr (3, [.int 0, .int 0, .int 0, .int 0, .int 0, .int 0, .int 0, .int 0, .int 0, .ref q0, .ref q1, .ref q2, .ref q3, .ref q4, .null, .null])), (q0, .inl (kd 0, 40, .inl fun _ => 0)), (q1, .inl (kd 0, 40, .inl fun _ => 0)), (q2, .inl (kd 0, 40, .inl fun _ => 0)), (q3, .inl (kd 0, 40, .inl fun _ => 0)), (q4, .inl (kd 0, 40, .inl fun _ => 0))] H := hP
  have hD : va_D A [(h0, .inr (3, [.int 0, .int 0, .int 0, .int 0, .int 0, .int 0, .int 0, .int 0, .int 0, .ref q0, .ref q1, .ref q2, .ref q3, .ref q4, .null, .null])), (q0, .inl (kd 0, 40, .inl fun _ => 0)), (q1, .inl (kd 0, 40, .inl fun _ => 0)), (q2, .inl (kd 0, 40, .inl fun _ => 0)), (q3, .inl (kd 0, 40, .inl fun _ => 0)), (q4, .inl (kd 0, 40, .inl fun _ => 0))] := hD
  refine lv_aload_n hx hb dX3_init_44 rfl (lv_at hl 0 rfl) ?_
  refine lv_sipush (v := 200) hx hb dX3_init_45 (by decide) ?_
  refine c_newa_int (a0 := (200, .inl fun _ => 0)) hx hb (hts _ wm_53) hK hP hD hS hA (fun _ => rfl) (by decide) (by decide) (by decide) (Nat.le_of_ble_eq_true rfl) (Nat.le_of_ble_eq_true rfl) dX3_init_48 (fun q5 H hP hD hS => ?_)
  have hP : va_P D vwCl [(h0, .inr (3, [.int 0, .int 0, .int 0, .int 0, .int 0, .int 0, .int 0, .int 0, .int 0, .ref q0, .ref q1, .ref q2, .ref q3, .ref q4, .null, .null])), (q0, .inl (kd 0, 40, .inl fun _ => 0)), (q1, .inl (kd 0, 40, .inl fun _ => 0)), (q2, .inl (kd 0, 40, .inl fun _ => 0)), (q3, .inl (kd 0, 40, .inl fun _ => 0)), (q4, .inl (kd 0, 40, .inl fun _ => 0)), (q5, .inl (kd 0, 200, .inl fun _ => 0))] H := hP
  have hD : va_D A [(h0, .inr (3, [.int 0, .int 0, .int 0, .int 0, .int 0, .int 0, .int 0, .int 0, .int 0, .ref q0, .ref q1, .ref q2, .ref q3, .ref q4, .null, .null])), (q0, .inl (kd 0, 40, .inl fun _ => 0)), (q1, .inl (kd 0, 40, .inl fun _ => 0)), (q2, .inl (kd 0, 40, .inl fun _ => 0)), (q3, .inl (kd 0, 40, .inl fun _ => 0)), (q4, .inl (kd 0, 40, .inl fun _ => 0)), (q5, .inl (kd 0, 200, .inl fun _ => 0))] := hD
  refine W.widen (k := 6) (n := 400) (by omega) (by omega) ?_
  refine va_putF (D := D) (ci := 3) (v := .ref q5) (ty := tyX3 14) (C := RX3) (T := TX3) (N := 16) hx hb hts inlX3 tyX3 tyX3_ok nmX3 hown hK hP hD hS 0 rfl rfl 14 (by decide) (hts _ wm_75) (fun _ h9 => h9) rfl hin rfl (tyX3_ok 14 (by decide)) rfl rfl (Nat.le_of_ble_eq_true rfl) dX3_init_50 (fun H locs hP hD hS => ?_)
  have hP : va_P D vwCl [(h0, .inr (3, [.int 0, .int 0, .int 0, .int 0, .int 0, .int 0, .int 0, .int 0, .int 0, .ref q0, .ref q1, .ref q2, .ref q3, .ref q4, .ref q5, .null])), (q0, .inl (kd 0, 40, .inl fun _ => 0)), (q1, .inl (kd 0, 40, .inl fun _ => 0)), (q2, .inl (kd 0, 40, .inl fun _ => 0)), (q3, .inl (kd 0, 40, .inl fun _ => 0)), (q4, .inl (kd 0, 40, .inl fun _ => 0)), (q5, .inl (kd 0, 200, .inl fun _ => 0))] H := hP
  have hD : va_D A [(h0, .inr (3, [.int 0, .int 0, .int 0, .int 0, .int 0, .int 0, .int 0, .int 0, .int 0, .ref q0, .ref q1, .ref q2, .ref q3, .ref q4, .ref q5, .null])), (q0, .inl (kd 0, 40, .inl fun _ => 0)), (q1, .inl (kd 0, 40, .inl fun _ => 0)), (q2, .inl (kd 0, 40, .inl fun _ => 0)), (q3, .inl (kd 0, 40, .inl fun _ => 0)), (q4, .inl (kd 0, 40, .inl fun _ => 0)), (q5, .inl (kd 0, 200, .inl fun _ => 0))] := hD
  refine lv_aload_n hx hb dX3_init_53 rfl (lv_at hl 0 rfl) ?_
  refine lv_bipush (v := 40) hx hb dX3_init_54 (by decide) ?_
  refine c_newa_int (a0 := (40, .inl fun _ => 0)) hx hb (hts _ wm_53) hK hP hD hS hA (fun _ => rfl) (by decide) (by decide) (by decide) (Nat.le_of_ble_eq_true rfl) (Nat.le_of_ble_eq_true rfl) dX3_init_56 (fun q6 H hP hD hS => ?_)
  have hP : va_P D vwCl [(h0, .inr (3, [.int 0, .int 0, .int 0, .int 0, .int 0, .int 0, .int 0, .int 0, .int 0, .ref q0, .ref q1, .ref q2, .ref q3, .ref q4, .ref q5, .null])), (q0, .inl (kd 0, 40, .inl fun _ => 0)), (q1, .inl (kd 0, 40, .inl fun _ => 0)), (q2, .inl (kd 0, 40, .inl fun _ => 0)), (q3, .inl (kd 0, 40, .inl fun _ => 0)), (q4, .inl (kd 0, 40, .inl fun _ => 0)), (q5, .inl (kd 0, 200, .inl fun _ => 0)), (q6, .inl (kd 0, 40, .inl fun _ => 0))] H := hP
  have hD : va_D A [(h0, .inr (3, [.int 0, .int 0, .int 0, .int 0, .int 0, .int 0, .int 0, .int 0, .int 0, .ref q0, .ref q1, .ref q2, .ref q3, .ref q4, .ref q5, .null])), (q0, .inl (kd 0, 40, .inl fun _ => 0)), (q1, .inl (kd 0, 40, .inl fun _ => 0)), (q2, .inl (kd 0, 40, .inl fun _ => 0)), (q3, .inl (kd 0, 40, .inl fun _ => 0)), (q4, .inl (kd 0, 40, .inl fun _ => 0)), (q5, .inl (kd 0, 200, .inl fun _ => 0)), (q6, .inl (kd 0, 40, .inl fun _ => 0))] := hD
  refine W.widen (k := 7) (n := 440) (by omega) (by omega) ?_
  refine va_putF (D := D) (ci := 3) (v := .ref q6) (ty := tyX3 15) (C := RX3) (T := TX3) (N := 16) hx hb hts inlX3 tyX3 tyX3_ok nmX3 hown hK hP hD hS 0 rfl rfl 15 (by decide) (hts _ wm_76) (fun _ h9 => h9) rfl hin rfl (tyX3_ok 15 (by decide)) rfl rfl (Nat.le_of_ble_eq_true rfl) dX3_init_58 (fun H locs hP hD hS => ?_)
  have hP : va_P D vwCl [(h0, .inr (3, [.int 0, .int 0, .int 0, .int 0, .int 0, .int 0, .int 0, .int 0, .int 0, .ref q0, .ref q1, .ref q2, .ref q3, .ref q4, .ref q5, .ref q6])), (q0, .inl (kd 0, 40, .inl fun _ => 0)), (q1, .inl (kd 0, 40, .inl fun _ => 0)), (q2, .inl (kd 0, 40, .inl fun _ => 0)), (q3, .inl (kd 0, 40, .inl fun _ => 0)), (q4, .inl (kd 0, 40, .inl fun _ => 0)), (q5, .inl (kd 0, 200, .inl fun _ => 0)), (q6, .inl (kd 0, 40, .inl fun _ => 0))] H := hP
  have hD : va_D A [(h0, .inr (3, [.int 0, .int 0, .int 0, .int 0, .int 0, .int 0, .int 0, .int 0, .int 0, .ref q0, .ref q1, .ref q2, .ref q3, .ref q4, .ref q5, .ref q6])), (q0, .inl (kd 0, 40, .inl fun _ => 0)), (q1, .inl (kd 0, 40, .inl fun _ => 0)), (q2, .inl (kd 0, 40, .inl fun _ => 0)), (q3, .inl (kd 0, 40, .inl fun _ => 0)), (q4, .inl (kd 0, 40, .inl fun _ => 0)), (q5, .inl (kd 0, 200, .inl fun _ => 0)), (q6, .inl (kd 0, 40, .inl fun _ => 0))] := hD
  refine lv_aload_n hx hb dX3_init_61 rfl (lv_at hl 0 rfl) ?_
  have hPc := hP.sub (ws' := [(h0, .inr (3, [.int 0, .int 0, .int 0, .int 0, .int 0, .int 0, .int 0, .int 0, .int 0, .ref q0, .ref q1, .ref q2, .ref q3, .ref q4, .ref q5, .ref q6]))]) [0] rfl
  have hDc := hD.sub (ws' := [(h0, .inr (3, [.int 0, .int 0, .int 0, .int 0, .int 0, .int 0, .int 0, .int 0, .int 0, .ref q0, .ref q1, .ref q2, .ref q3, .ref q4, .ref q5, .ref q6]))]) [0] (by decide) rfl
  have hFc := va_free (wc := [(h0, .inr (3, [.int 0, .int 0, .int 0, .int 0, .int 0, .int 0, .int 0, .int 0, .int 0, .ref q0, .ref q1, .ref q2, .ref q3, .ref q4, .ref q5, .ref q6]))]) hD hS hA [0] rfl
  refine va_callv (va_runV (As := []) (rest := []) ⟨hx, hb, hml, hown, hts⟩ (c_X3_clear l D kd h0 q0 q1 q2 q3 q4 q5 q6 H.size) ⟨g_callR glc_X3_33 hts rfl rfl (Nat.le_of_ble_eq_true rfl) (Nat.le_of_ble_eq_true rfl), hts _ wm_78, hts _ wm_79⟩ ⟨c_blind, va_recv hK hPc (ci := 3) (q0 := 0) rfl rfl, fun U hU hW => ⟨rfl, by rw [hU], by rw [hU]; exact hPc, va_K.moved hW.alike hK, hDc.weaken (fun _ _ _ _ => trivial)⟩⟩ rfl rfl hl.1 rfl (lv_room (Nat.le_of_ble_eq_true rfl)) dX3_init_62 ⟨Nat.le_of_ble_eq_true rfl, Nat.le_of_ble_eq_true rfl⟩) hS (fun q _ h => hFc q h) hFc (fun u t H1 locs ht hvm hw hB hz1 hk1 hS => ?_)
  obtain ⟨hP1, hK1, hD1⟩ := hB
  rw [ht] at hP1
  obtain ⟨hP, hD⟩ := va_join (wr := [(q0, .inl (kd 0, 40, .inl fun _ => 0)), (q1, .inl (kd 0, 40, .inl fun _ => 0)), (q2, .inl (kd 0, 40, .inl fun _ => 0)), (q3, .inl (kd 0, 40, .inl fun _ => 0)), (q4, .inl (kd 0, 40, .inl fun _ => 0)), (q5, .inl (kd 0, 200, .inl fun _ => 0)), (q6, .inl (kd 0, 40, .inl fun _ => 0))]) (w1 := [(h0, .inr (3, [.int 0, .int 0, .int 0, .int (-1), .int 4, .int 2, .int 3, .int 3, .int 4, .ref q0, .ref q1, .ref q2, .ref q3, .ref q4, .ref q5, .ref q6]))]) hP hD [0] [1, 2, 3, 4, 5, 6, 7] rfl rfl (by decide) (by decide) hk1 hFc hP1 hD1
  clear hP1 hK1 hD1 hPc hDc hFc hk1 hz1
  generalize H1 = H at hP hS ⊢
  have hP : va_P D vwCl [(q0, .inl (kd 0, 40, .inl fun _ => 0)), (q1, .inl (kd 0, 40, .inl fun _ => 0)), (q2, .inl (kd 0, 40, .inl fun _ => 0)), (q3, .inl (kd 0, 40, .inl fun _ => 0)), (q4, .inl (kd 0, 40, .inl fun _ => 0)), (q5, .inl (kd 0, 200, .inl fun _ => 0)), (q6, .inl (kd 0, 40, .inl fun _ => 0)), (h0, .inr (3, [.int 0, .int 0, .int 0, .int (-1), .int 4, .int 2, .int 3, .int 3, .int 4, .ref q0, .ref q1, .ref q2, .ref q3, .ref q4, .ref q5, .ref q6]))] H := hP
  have hD : va_D A [(q0, .inl (kd 0, 40, .inl fun _ => 0)), (q1, .inl (kd 0, 40, .inl fun _ => 0)), (q2, .inl (kd 0, 40, .inl fun _ => 0)), (q3, .inl (kd 0, 40, .inl fun _ => 0)), (q4, .inl (kd 0, 40, .inl fun _ => 0)), (q5, .inl (kd 0, 200, .inl fun _ => 0)), (q6, .inl (kd 0, 40, .inl fun _ => 0)), (h0, .inr (3, [.int 0, .int 0, .int 0, .int (-1), .int 4, .int 2, .int 3, .int 3, .int 4, .ref q0, .ref q1, .ref q2, .ref q3, .ref q4, .ref q5, .ref q6]))] := hD
  have hP9 := hP.sub (ws' := [(h0, .inr (3, [.int 0, .int 0, .int 0, .int (-1), .int 4, .int 2, .int 3, .int 3, .int 4, .ref q0, .ref q1, .ref q2, .ref q3, .ref q4, .ref q5, .ref q6])), (q0, .inl (kd 0, 40, .inl fun _ => 0)), (q1, .inl (kd 0, 40, .inl fun _ => 0)), (q2, .inl (kd 0, 40, .inl fun _ => 0)), (q3, .inl (kd 0, 40, .inl fun _ => 0)), (q4, .inl (kd 0, 40, .inl fun _ => 0)), (q5, .inl (kd 0, 200, .inl fun _ => 0)), (q6, .inl (kd 0, 40, .inl fun _ => 0))]) [7, 0, 1, 2, 3, 4, 5, 6] rfl
  have hD9 := hD.sub (ws' := [(h0, .inr (3, [.int 0, .int 0, .int 0, .int (-1), .int 4, .int 2, .int 3, .int 3, .int 4, .ref q0, .ref q1, .ref q2, .ref q3, .ref q4, .ref q5, .ref q6])), (q0, .inl (kd 0, 40, .inl fun _ => 0)), (q1, .inl (kd 0, 40, .inl fun _ => 0)), (q2, .inl (kd 0, 40, .inl fun _ => 0)), (q3, .inl (kd 0, 40, .inl fun _ => 0)), (q4, .inl (kd 0, 40, .inl fun _ => 0)), (q5, .inl (kd 0, 200, .inl fun _ => 0)), (q6, .inl (kd 0, 40, .inl fun _ => 0))]) [7, 0, 1, 2, 3, 4, 5, 6] (by decide) rfl
  exact W.vret hx hb hr (fun t ht hW => ⟨⟨(), rfl, trivial, q0, q1, q2, q3, q4, q5, q6, by rw [ht]; exact hP9, va_K.moved hW.alike hK, hD9⟩, hS.F ht⟩) hS.2.2 dX3_init_65
set_option maxRecDepth 100000 in
set_option maxHeartbeats 40000000 in
theorem c_X7_init (l : Launch) (D : va_G) (kd : Nat → ClassId) (h0 : Nat) (sz : Nat) : Met l yX7_init (Cond.code yX7_init cX7_init 1 none :: wsL_law) ({ frames := 1, cells := 1, slots := 500, locals := 12 }) (va_Pc [.ref h0] (fun U => U.heap.size = sz ∧ va_P D vwCl [(h0, .inr (7, [.null, .int 0, .int 0, .int 0, .int 0]))] U.heap ∧ va_K D vwCl (g_tys kd) U ∧ va_D (fun _ => True) [(h0, .inr (7, [.null, .int 0, .int 0, .int 0, .int 0]))])) (va_Qv (fun _ : Unit => True) (fun _ t => ∃ q0, va_P D vwCl [(h0, .inr (7, [.ref q0, .int 0, .int 0, .int 0, .int 0])), (q0, .inl (kd 0, 500, .inl fun _ => 0))] t.heap ∧ va_K D vwCl (g_tys kd) t ∧ va_D (va_A [(h0, .inr (7, [.null, .int 0, .int 0, .int 0, .int 0]))] sz) [(h0, .inr (7, [.ref q0, .int 0, .int 0, .int 0, .int 0])), (q0, .inl (kd 0, 500, .inl fun _ => 0))]) (va_A [(h0, .inr (7, [.null, .int 0, .int 0, .int 0, .int 0]))] sz)) 1 500 (va_A [(h0, .inr (7, [.null, .int 0, .int 0, .int 0, .int 0]))] sz) := by
  refine Met.ofW (cc := cX7_init) (maxL := 1) (ret := none) (by decide) rfl ?_
  intro p e s m args below meth c s₁ B hml hv
  obtain ⟨rfl, hsz, hP, hK, hD0⟩ := hv
  have hx := B.exec
  have hb := B.bytes
  have hr := B.returns
  have hts0 := atoms_spec (ws := Cond.code yX7_init cX7_init 1 none :: wsL_law) B.pre
  have hts : ∀ w ∈ wsL_law, w.before _ s = true := fun w hw => hts0 w (List.mem_cons_of_mem _ hw)
  have hown : s.vm.findClass RX7 = some m.cls := findClass_of_methodNamed B.named
  have hin : meth.name = "<init>" := (name_of_methodNamed B.named B.method).1
  subst hsz
  have hD := hD0.self (sz := s.heap.size)
  generalize hAe : va_A [(h0, .inr (7, [.null, .int 0, .int 0, .int 0, .int 0]))] s.heap.size = A at hD ⊢
  have hA : ∀ q : Nat, s.heap.size ≤ q → A q := fun q h => by rw [← hAe]; exact Or.inr h
  have hS : va_S A s.heap s.heap [] := va_S.rf
  have hl := lv_entry ([.ref h0]) (n := 1) (Nat.le_of_ble_eq_true rfl)
  rw [lg_entry_eq]
  generalize (lg_sl ([.ref h0]) ++ List.replicate (1 - (lg_sl ([.ref h0])).length) Slot.unset).toArray = ls at hl ⊢
  have hl : lv_has ls 1 [(0, .ref h0)] := hl
  refine lv_aload_n hx hb dX7_init_0 rfl (lv_at hl 0 rfl) ?_
  refine W.objInit hx hb hown (hts _ wm_52) (hts _ wm_11) (hts _ wm_12) rfl (by rw [hml]; exact hl.1) rfl dX7_init_1 (Nat.le_of_ble_eq_true rfl) (Nat.le_of_ble_eq_true rfl) ?_
  refine W.eq (g2 := F0 m 4 ls []) rfl ?_
  refine lv_aload_n hx hb dX7_init_4 rfl (lv_at hl 0 rfl) ?_
  refine lv_sipush (v := 500) hx hb dX7_init_5 (by decide) ?_
  refine c_newa_int (a0 := (500, .inl fun _ => 0)) hx hb (hts _ wm_53) hK hP hD hS hA (fun _ => rfl) (by decide) (by decide) (by decide) (Nat.le_of_ble_eq_true rfl) (Nat.le_of_ble_eq_true rfl) dX7_init_8 (fun q0 H hP hD hS => ?_)
  have hP : va_P D vwCl [(h0, .inr (7, [.null, .int 0, .int 0, .int 0, .int 0])), (q0, .inl (kd 0, 500, .inl fun _ => 0))] H := hP
  have hD : va_D A [(h0, .inr (7, [.null, .int 0, .int 0, .int 0, .int 0])), (q0, .inl (kd 0, 500, .inl fun _ => 0))] := hD
  refine W.widen (k := 1) (n := 500) (by omega) (by omega) ?_
  refine va_putF (D := D) (ci := 7) (v := .ref q0) (ty := tyX7 0) (C := RX7) (T := TX7) (N := 5) hx hb hts inlX7 tyX7 tyX7_ok nmX7 hown hK hP hD hS 0 rfl rfl 0 (by decide) (hts _ wm_54) (fun _ h9 => h9) rfl hin rfl (tyX7_ok 0 (by decide)) rfl rfl (Nat.le_of_ble_eq_true rfl) dX7_init_10 (fun H locs hP hD hS => ?_)
  have hP : va_P D vwCl [(h0, .inr (7, [.ref q0, .int 0, .int 0, .int 0, .int 0])), (q0, .inl (kd 0, 500, .inl fun _ => 0))] H := hP
  have hD : va_D A [(h0, .inr (7, [.ref q0, .int 0, .int 0, .int 0, .int 0])), (q0, .inl (kd 0, 500, .inl fun _ => 0))] := hD
  have hP9 := hP.sub (ws' := [(h0, .inr (7, [.ref q0, .int 0, .int 0, .int 0, .int 0])), (q0, .inl (kd 0, 500, .inl fun _ => 0))]) [0, 1] rfl
  have hD9 := hD.sub (ws' := [(h0, .inr (7, [.ref q0, .int 0, .int 0, .int 0, .int 0])), (q0, .inl (kd 0, 500, .inl fun _ => 0))]) [0, 1] (by decide) rfl
  exact W.vret hx hb hr (fun t ht hW => ⟨⟨(), rfl, trivial, q0, by rw [ht]; exact hP9, va_K.moved hW.alike hK, hD9⟩, hS.F ht⟩) hS.2.2 dX7_init_13
set_option maxRecDepth 100000 in
set_option maxHeartbeats 40000000 in
theorem c_X4_init (l : Launch) (D : va_G) (kd : Nat → ClassId) (h0 a1 : Nat) (sz : Nat) : Met l yX4_init (Cond.code yX4_init cX4_init 2 none :: wsL_law) ({ frames := 1, cells := 2, slots := 80, locals := 12 }) (va_Pc [.ref h0, .ref a1] (fun U => U.heap.size = sz ∧ va_P D vwCl [(h0, .inr (4, [.null, .null, .null, .int 0, .int 0, .int 0, .int 0, .int 0, .int 0, .int 0, .int 0]))] U.heap ∧ va_K D vwCl (g_tys kd) U ∧ va_D (fun _ => True) [(h0, .inr (4, [.null, .null, .null, .int 0, .int 0, .int 0, .int 0, .int 0, .int 0, .int 0, .int 0]))])) (va_Qv (fun _ : Unit => True) (fun _ t => ∃ q0 q1, va_P D vwCl [(h0, .inr (4, [.ref a1, .ref q0, .ref q1, .int (-1), .int (-1), .int (-1), .int 0, .int 0, .int 0, .int 0, .int 0])), (q0, .inl (kd 0, 40, .inl fun _ => 0)), (q1, .inl (kd 0, 40, .inl fun _ => 0))] t.heap ∧ va_K D vwCl (g_tys kd) t ∧ va_D (va_A [(h0, .inr (4, [.null, .null, .null, .int 0, .int 0, .int 0, .int 0, .int 0, .int 0, .int 0, .int 0]))] sz) [(h0, .inr (4, [.ref a1, .ref q0, .ref q1, .int (-1), .int (-1), .int (-1), .int 0, .int 0, .int 0, .int 0, .int 0])), (q0, .inl (kd 0, 40, .inl fun _ => 0)), (q1, .inl (kd 0, 40, .inl fun _ => 0))]) (va_A [(h0, .inr (4, [.null, .null, .null, .int 0, .int 0, .int 0, .int 0, .int 0, .int 0, .int 0, .int 0]))] sz)) 2 80 (va_A [(h0, .inr (4, [.null, .null, .null, .int 0, .int 0, .int 0, .int 0, .int 0, .int 0, .int 0, .int 0]))] sz) := by
  refine Met.ofW (cc := cX4_init) (maxL := 2) (ret := none) (by decide) rfl ?_
  intro p e s m args below meth c s₁ B hml hv
  obtain ⟨rfl, hsz, hP, hK, hD0⟩ := hv
  have hx := B.exec
  have hb := B.bytes
  have hr := B.returns
  have hts0 := atoms_spec (ws := Cond.code yX4_init cX4_init 2 none :: wsL_law) B.pre
  have hts : ∀ w ∈ wsL_law, w.before _ s = true := fun w hw => hts0 w (List.mem_cons_of_mem _ hw)
  have hown : s.vm.findClass RX4 = some m.cls := findClass_of_methodNamed B.named
  have hin : meth.name = "<init>" := (name_of_methodNamed B.named B.method).1
  subst hsz
  have hD := hD0.self (sz := s.heap.size)
  generalize hAe : va_A [(h0, .inr (4, [.null, .null, .null, .int 0, .int 0, .int 0, .int 0, .int 0, .int 0, .int 0, .int 0]))] s.heap.size = A at hD ⊢
  have hA : ∀ q : Nat, s.heap.size ≤ q → A q := fun q h => by rw [← hAe]; exact Or.inr h
  have hS : va_S A s.heap s.heap [] := va_S.rf
  have hl := lv_entry ([.ref h0, .ref a1]) (n := 2) (Nat.le_of_ble_eq_true rfl)
  rw [lg_entry_eq]
  generalize (lg_sl ([.ref h0, .ref a1]) ++ List.replicate (2 - (lg_sl ([.ref h0, .ref a1])).length) Slot.unset).toArray = ls at hl ⊢
  have hl : lv_has ls 2 [(0, .ref h0), (1, .ref a1)] := hl
  refine lv_aload_n hx hb dX4_init_0 rfl (lv_at hl 0 rfl) ?_
  refine W.objInit hx hb hown (hts _ wm_98) (hts _ wm_11) (hts _ wm_12) rfl (by rw [hml]; exact hl.1) rfl dX4_init_1 (Nat.le_of_ble_eq_true rfl) (Nat.le_of_ble_eq_true rfl) ?_
  refine W.eq (g2 := F0 m 4 ls []) rfl ?_
  refine lv_aload_n hx hb dX4_init_4 rfl (lv_at hl 0 rfl) ?_
  refine lv_bipush (v := 40) hx hb dX4_init_5 (by decide) ?_
  refine c_newa_int (a0 := (40, .inl fun _ => 0)) hx hb (hts _ wm_53) hK hP hD hS hA (fun _ => rfl) (by decide) (by decide) (by decide) (Nat.le_of_ble_eq_true rfl) (Nat.le_of_ble_eq_true rfl) dX4_init_7 (fun q0 H hP hD hS => ?_)
  have hP : va_P D vwCl [(h0, .inr (4, [.null, .null, .null, .int 0, .int 0, .int 0, .int 0, .int 0, .int 0, .int 0, .int 0])), (q0, .inl (kd 0, 40, .inl fun _ => 0))] H := hP
  have hD : va_D A [(h0, .inr (4, [.null, .null, .null, .int 0, .int 0, .int 0, .int 0, .int 0, .int 0, .int 0, .int 0])), (q0, .inl (kd 0, 40, .inl fun _ => 0))] := hD
  refine W.widen (k := 1) (n := 40) (by omega) (by omega) ?_
  refine va_putF (D := D) (ci := 4) (v := .ref q0) (ty := tyX4 1) (C := RX4) (T := TX4) (N := 11) hx hb hts inlX4 tyX4 tyX4_ok nmX4 hown hK hP hD hS 0 rfl rfl 1 (by decide) (hts _ wm_99) (fun _ h9 => h9) rfl hin rfl (tyX4_ok 1 (by decide)) rfl rfl (Nat.le_of_ble_eq_true rfl) dX4_init_9 (fun H locs hP hD hS => ?_)
  have hP : va_P D vwCl [(h0, .inr (4, [.null, .ref q0, .null, .int 0, .int 0, .int 0, .int 0, .int 0, .int 0, .int 0, .int 0])), (q0, .inl (kd 0, 40, .inl fun _ => 0))] H := hP
  have hD : va_D A [(h0, .inr (4, [.null, .ref q0, .null, .int 0, .int 0, .int 0, .int 0, .int 0, .int 0, .int 0, .int 0])), (q0, .inl (kd 0, 40, .inl fun _ => 0))] := hD
  refine lv_aload_n hx hb dX4_init_12 rfl (lv_at hl 0 rfl) ?_
  refine lv_bipush (v := 40) hx hb dX4_init_13 (by decide) ?_
  refine c_newa_int (a0 := (40, .inl fun _ => 0)) hx hb (hts _ wm_53) hK hP hD hS hA (fun _ => rfl) (by decide) (by decide) (by decide) (Nat.le_of_ble_eq_true rfl) (Nat.le_of_ble_eq_true rfl) dX4_init_15 (fun q1 H hP hD hS => ?_)
  have hP : va_P D vwCl [(h0, .inr (4, [.null, .ref q0, .null, .int 0, .int 0, .int 0, .int 0, .int 0, .int 0, .int 0, .int 0])), (q0, .inl (kd 0, 40, .inl fun _ => 0)), (q1, .inl (kd 0, 40, .inl fun _ => 0))] H := hP
  have hD : va_D A [(h0, .inr (4, [.null, .ref q0, .null, .int 0, .int 0, .int 0, .int 0, .int 0, .int 0, .int 0, .int 0])), (q0, .inl (kd 0, 40, .inl fun _ => 0)), (q1, .inl (kd 0, 40, .inl fun _ => 0))] := hD
  refine W.widen (k := 2) (n := 80) (by omega) (by omega) ?_
  refine va_putF (D := D) (ci := 4) (v := .ref q1) (ty := tyX4 2) (C := RX4) (T := TX4) (N := 11) hx hb hts inlX4 tyX4 tyX4_ok nmX4 hown hK hP hD hS 0 rfl rfl 2 (by decide) (hts _ wm_100) (fun _ h9 => h9) rfl hin rfl (tyX4_ok 2 (by decide)) rfl rfl (Nat.le_of_ble_eq_true rfl) dX4_init_17 (fun H locs hP hD hS => ?_)
  have hP : va_P D vwCl [(h0, .inr (4, [.null, .ref q0, .ref q1, .int 0, .int 0, .int 0, .int 0, .int 0, .int 0, .int 0, .int 0])), (q0, .inl (kd 0, 40, .inl fun _ => 0)), (q1, .inl (kd 0, 40, .inl fun _ => 0))] H := hP
  have hD : va_D A [(h0, .inr (4, [.null, .ref q0, .ref q1, .int 0, .int 0, .int 0, .int 0, .int 0, .int 0, .int 0, .int 0])), (q0, .inl (kd 0, 40, .inl fun _ => 0)), (q1, .inl (kd 0, 40, .inl fun _ => 0))] := hD
  refine lv_aload_n hx hb dX4_init_20 rfl (lv_at hl 0 rfl) ?_
  refine lv_aload_n hx hb dX4_init_21 rfl (lv_at hl 1 rfl) ?_
  refine va_putF (D := D) (ci := 4) (v := .ref a1) (ty := tyX4 0) (C := RX4) (T := TX4) (N := 11) hx hb hts inlX4 tyX4 tyX4_ok nmX4 hown hK hP hD hS 0 rfl rfl 0 (by decide) (hts _ wm_101) (fun _ h9 => h9) rfl hin rfl (tyX4_ok 0 (by decide)) rfl rfl (Nat.le_of_ble_eq_true rfl) dX4_init_22 (fun H locs hP hD hS => ?_)
  have hP : va_P D vwCl [(h0, .inr (4, [.ref a1, .ref q0, .ref q1, .int 0, .int 0, .int 0, .int 0, .int 0, .int 0, .int 0, .int 0])), (q0, .inl (kd 0, 40, .inl fun _ => 0)), (q1, .inl (kd 0, 40, .inl fun _ => 0))] H := hP
  have hD : va_D A [(h0, .inr (4, [.ref a1, .ref q0, .ref q1, .int 0, .int 0, .int 0, .int 0, .int 0, .int 0, .int 0, .int 0])), (q0, .inl (kd 0, 40, .inl fun _ => 0)), (q1, .inl (kd 0, 40, .inl fun _ => 0))] := hD
  refine lv_aload_n hx hb dX4_init_25 rfl (lv_at hl 0 rfl) ?_
  refine lv_iconst (v := (-1)) hx hb dX4_init_26 (by decide) ?_
  refine va_put (D := D) (ci := 4) (v := .int (-1)) (ty := .int) (C := RX4) (T := TX4) (N := 11) hx hb hts inlX4 tyX4 tyX4_ok nmX4 hown hK hP hD hS 0 rfl rfl 3 (by decide) (hts _ wm_102) (fun _ h9 => h9) rfl (tyX4_ok 3 (by decide)) rfl rfl (Nat.le_of_ble_eq_true rfl) dX4_init_27 (fun H locs hP hD hS => ?_)
  have hP : va_P D vwCl [(h0, .inr (4, [.ref a1, .ref q0, .ref q1, .int (-1), .int 0, .int 0, .int 0, .int 0, .int 0, .int 0, .int 0])), (q0, .inl (kd 0, 40, .inl fun _ => 0)), (q1, .inl (kd 0, 40, .inl fun _ => 0))] H := hP
  have hD : va_D A [(h0, .inr (4, [.ref a1, .ref q0, .ref q1, .int (-1), .int 0, .int 0, .int 0, .int 0, .int 0, .int 0, .int 0])), (q0, .inl (kd 0, 40, .inl fun _ => 0)), (q1, .inl (kd 0, 40, .inl fun _ => 0))] := hD
  refine lv_aload_n hx hb dX4_init_30 rfl (lv_at hl 0 rfl) ?_
  refine lv_iconst (v := (-1)) hx hb dX4_init_31 (by decide) ?_
  refine va_put (D := D) (ci := 4) (v := .int (-1)) (ty := .int) (C := RX4) (T := TX4) (N := 11) hx hb hts inlX4 tyX4 tyX4_ok nmX4 hown hK hP hD hS 0 rfl rfl 4 (by decide) (hts _ wm_103) (fun _ h9 => h9) rfl (tyX4_ok 4 (by decide)) rfl rfl (Nat.le_of_ble_eq_true rfl) dX4_init_32 (fun H locs hP hD hS => ?_)
  have hP : va_P D vwCl [(h0, .inr (4, [.ref a1, .ref q0, .ref q1, .int (-1), .int (-1), .int 0, .int 0, .int 0, .int 0, .int 0, .int 0])), (q0, .inl (kd 0, 40, .inl fun _ => 0)), (q1, .inl (kd 0, 40, .inl fun _ => 0))] H := hP
  have hD : va_D A [(h0, .inr (4, [.ref a1, .ref q0, .ref q1, .int (-1), .int (-1), .int 0, .int 0, .int 0, .int 0, .int 0, .int 0])), (q0, .inl (kd 0, 40, .inl fun _ => 0)), (q1, .inl (kd 0, 40, .inl fun _ => 0))] := hD
  refine lv_aload_n hx hb dX4_init_35 rfl (lv_at hl 0 rfl) ?_
  refine lv_iconst (v := (-1)) hx hb dX4_init_36 (by decide) ?_
  refine va_put (D := D) (ci := 4) (v := .int (-1)) (ty := .int) (C := RX4) (T := TX4) (N := 11) hx hb hts inlX4 tyX4 tyX4_ok nmX4 hown hK hP hD hS 0 rfl rfl 5 (by decide) (hts _ wm_104) (fun _ h9 => h9) rfl (tyX4_ok 5 (by decide)) rfl rfl (Nat.le_of_ble_eq_true rfl) dX4_init_37 (fun H locs hP hD hS => ?_)
  have hP : va_P D vwCl [(h0, .inr (4, [.ref a1, .ref q0, .ref q1, .int (-1), .int (-1), .int (-1), .int 0, .int 0, .int 0, .int 0, .int 0])), (q0, .inl (kd 0, 40, .inl fun _ => 0)), (q1, .inl (kd 0, 40, .inl fun _ => 0))] H := hP
  have hD : va_D A [(h0, .inr (4, [.ref a1, .ref q0, .ref q1, .int (-1), .int (-1), .int (-1), .int 0, .int 0, .int 0, .int 0, .int 0])), (q0, .inl (kd 0, 40, .inl fun _ => 0)), (q1, .inl (kd 0, 40, .inl fun _ => 0))] := hD
  have hP9 := hP.sub (ws' := [(h0, .inr (4, [.ref a1, .ref q0, .ref q1, .int (-1), .int (-1), .int (-1), .int 0, .int 0, .int 0, .int 0, .int 0])), (q0, .inl (kd 0, 40, .inl fun _ => 0)), (q1, .inl (kd 0, 40, .inl fun _ => 0))]) [0, 1, 2] rfl
  have hD9 := hD.sub (ws' := [(h0, .inr (4, [.ref a1, .ref q0, .ref q1, .int (-1), .int (-1), .int (-1), .int 0, .int 0, .int 0, .int 0, .int 0])), (q0, .inl (kd 0, 40, .inl fun _ => 0)), (q1, .inl (kd 0, 40, .inl fun _ => 0))]) [0, 1, 2] (by decide) rfl
  exact W.vret hx hb hr (fun t ht hW => ⟨⟨(), rfl, trivial, q0, q1, by rw [ht]; exact hP9, va_K.moved hW.alike hK, hD9⟩, hS.F ht⟩) hS.2.2 dX4_init_40
theorem glc_X5_11 : g_L RX5 11 yX3_init cX3_init 1 none 0 := ⟨wm_68, wm_66, wm_23, by decide, by decide, by decide +kernel⟩
set_option maxRecDepth 100000 in
set_option maxHeartbeats 40000000 in
theorem c_X5_init (l : Launch) (D : va_G) (kd : Nat → ClassId) (h0 a1 : Nat) (sz : Nat) : Met l yX5_init (Cond.code yX5_init cX5_init 2 none :: wsL_law) ({ frames := 3, cells := 10, slots := 536, locals := 64 }) (va_Pc [.ref h0, .ref a1] (fun U => U.heap.size = sz ∧ va_P D vwCl [(h0, .inr (5, [.null, .null, .null, .null, .int 0, .int 0, .int 0, .int 0, .int 0, .int 0, .int 0]))] U.heap ∧ va_K D vwCl (g_tys kd) U ∧ va_D (fun _ => True) [(h0, .inr (5, [.null, .null, .null, .null, .int 0, .int 0, .int 0, .int 0, .int 0, .int 0, .int 0]))])) (va_Qv (fun _ : Unit => True) (fun _ t => ∃ q0 q1 q2 q3 q4 q5 q6 q7 q8 q9, va_P D vwCl [(h0, .inr (5, [.ref a1, .ref q0, .ref q8, .ref q9, .int 0, .int 0, .int 0, .int 0, .int 0, .int 0, .int (-1)])), (q0, .inr (3, [.int 0, .int 0, .int 0, .int (-1), .int 4, .int 2, .int 3, .int 3, .int 4, .ref q1, .ref q2, .ref q3, .ref q4, .ref q5, .ref q6, .ref q7])), (q1, .inl (kd 0, 40, .inl fun _ => 0)), (q2, .inl (kd 0, 40, .inl fun _ => 0)), (q3, .inl (kd 0, 40, .inl fun _ => 0)), (q4, .inl (kd 0, 40, .inl fun _ => 0)), (q5, .inl (kd 0, 40, .inl fun _ => 0)), (q6, .inl (kd 0, 200, .inl fun _ => 0)), (q7, .inl (kd 0, 40, .inl fun _ => 0)), (q8, .inl (kd 1, 40, .inl fun _ => 0)), (q9, .inl (kd 1, 40, .inl fun _ => 0))] t.heap ∧ va_K D vwCl (g_tys kd) t ∧ va_D (va_A [(h0, .inr (5, [.null, .null, .null, .null, .int 0, .int 0, .int 0, .int 0, .int 0, .int 0, .int 0]))] sz) [(h0, .inr (5, [.ref a1, .ref q0, .ref q8, .ref q9, .int 0, .int 0, .int 0, .int 0, .int 0, .int 0, .int (-1)])), (q0, .inr (3, [.int 0, .int 0, .int 0, .int (-1), .int 4, .int 2, .int 3, .int 3, .int 4, .ref q1, .ref q2, .ref q3, .ref q4, .ref q5, .ref q6, .ref q7])), (q1, .inl (kd 0, 40, .inl fun _ => 0)), (q2, .inl (kd 0, 40, .inl fun _ => 0)), (q3, .inl (kd 0, 40, .inl fun _ => 0)), (q4, .inl (kd 0, 40, .inl fun _ => 0)), (q5, .inl (kd 0, 40, .inl fun _ => 0)), (q6, .inl (kd 0, 200, .inl fun _ => 0)), (q7, .inl (kd 0, 40, .inl fun _ => 0)), (q8, .inl (kd 1, 40, .inl fun _ => 0)), (q9, .inl (kd 1, 40, .inl fun _ => 0))]) (va_A [(h0, .inr (5, [.null, .null, .null, .null, .int 0, .int 0, .int 0, .int 0, .int 0, .int 0, .int 0]))] sz)) 10 536 (va_A [(h0, .inr (5, [.null, .null, .null, .null, .int 0, .int 0, .int 0, .int 0, .int 0, .int 0, .int 0]))] sz) := by
  refine Met.ofW (cc := cX5_init) (maxL := 2) (ret := none) (by decide) rfl ?_
  intro p e s m args below meth c s₁ B hml hv
  obtain ⟨rfl, hsz, hP, hK, hD0⟩ := hv
  have hx := B.exec
  have hb := B.bytes
  have hr := B.returns
  have hts0 := atoms_spec (ws := Cond.code yX5_init cX5_init 2 none :: wsL_law) B.pre
  have hts : ∀ w ∈ wsL_law, w.before _ s = true := fun w hw => hts0 w (List.mem_cons_of_mem _ hw)
  have hown : s.vm.findClass RX5 = some m.cls := findClass_of_methodNamed B.named
  have hin : meth.name = "<init>" := (name_of_methodNamed B.named B.method).1
  subst hsz
  have hD := hD0.self (sz := s.heap.size)
  generalize hAe : va_A [(h0, .inr (5, [.null, .null, .null, .null, .int 0, .int 0, .int 0, .int 0, .int 0, .int 0, .int 0]))] s.heap.size = A at hD ⊢
  have hA : ∀ q : Nat, s.heap.size ≤ q → A q := fun q h => by rw [← hAe]; exact Or.inr h
  have hS : va_S A s.heap s.heap [] := va_S.rf
  have hl := lv_entry ([.ref h0, .ref a1]) (n := 2) (Nat.le_of_ble_eq_true rfl)
  rw [lg_entry_eq]
  generalize (lg_sl ([.ref h0, .ref a1]) ++ List.replicate (2 - (lg_sl ([.ref h0, .ref a1])).length) Slot.unset).toArray = ls at hl ⊢
  have hl : lv_has ls 2 [(0, .ref h0), (1, .ref a1)] := hl
  refine lv_aload_n hx hb dX5_init_0 rfl (lv_at hl 0 rfl) ?_
  refine W.objInit hx hb hown (hts _ wm_58) (hts _ wm_11) (hts _ wm_12) rfl (by rw [hml]; exact hl.1) rfl dX5_init_1 (Nat.le_of_ble_eq_true rfl) (Nat.le_of_ble_eq_true rfl) ?_
  refine W.eq (g2 := F0 m 4 ls []) rfl ?_
  refine lv_aload_n hx hb dX5_init_4 rfl (lv_at hl 0 rfl) ?_
  refine va_new (ci := 3) (fs := [.int 0, .int 0, .int 0, .int 0, .int 0, .int 0, .int 0, .int 0, .int 0, .null, .null, .null, .null, .null, .null, .null]) (C := RX3) (T := TX3) (N := 16) hx hb hts inlX3 tyX3 tyX3_ok hown (hts _ wm_59) (hts _ wm_22) (hts _ wm_23) hK hP hD hS hA rfl (fun j hj => by rcases (show j = 0 ∨ j = 1 ∨ j = 2 ∨ j = 3 ∨ j = 4 ∨ j = 5 ∨ j = 6 ∨ j = 7 ∨ j = 8 ∨ j = 9 ∨ j = 10 ∨ j = 11 ∨ j = 12 ∨ j = 13 ∨ j = 14 ∨ j = 15 by omega) with rfl | rfl | rfl | rfl | rfl | rfl | rfl | rfl | rfl | rfl | rfl | rfl | rfl | rfl | rfl | rfl <;> rfl) (Nat.le_of_ble_eq_true rfl) (Nat.le_of_ble_eq_true rfl) dX5_init_5 (fun q0 H hP hD hS => ?_)
  have hP : va_P D vwCl [(h0, .inr (5, [.null, .null, .null, .null, .int 0, .int 0, .int 0, .int 0, .int 0, .int 0, .int 0])), (q0, .inr (3, [.int 0, .int 0, .int 0, .int 0, .int 0, .int 0, .int 0, .int 0, .int 0, .null, .null, .null, .null, .null, .null, .null]))] H := hP
  have hD : va_D A [(h0, .inr (5, [.null, .null, .null, .null, .int 0, .int 0, .int 0, .int 0, .int 0, .int 0, .int 0])), (q0, .inr (3, [.int 0, .int 0, .int 0, .int 0, .int 0, .int 0, .int 0, .int 0, .int 0, .null, .null, .null, .null, .null, .null, .null]))] := hD
  refine W.widen (k := 1) (n := 16) (by omega) (by omega) ?_
  refine lv_dup hx hb dX5_init_8 rfl ?_
  have hPc := hP.sub (ws' := [(q0, .inr (3, [.int 0, .int 0, .int 0, .int 0, .int 0, .int 0, .int 0, .int 0, .int 0, .null, .null, .null, .null, .null, .null, .null]))]) [1] rfl
  have hDc := hD.sub (ws' := [(q0, .inr (3, [.int 0, .int 0, .int 0, .int 0, .int 0, .int 0, .int 0, .int 0, .int 0, .null, .null, .null, .null, .null, .null, .null]))]) [1] (by decide) rfl
  have hFc := va_free (wc := [(q0, .inr (3, [.int 0, .int 0, .int 0, .int 0, .int 0, .int 0, .int 0, .int 0, .int 0, .null, .null, .null, .null, .null, .null, .null]))]) hD hS hA [1] rfl
  refine va_callv (va_runI (As := []) (rest := [.ref q0, .ref h0]) ⟨hx, hb, hml, hown, hts⟩ (c_X3_init l D kd q0 H.size) ⟨g_callR glc_X5_11 hts rfl rfl (Nat.le_of_ble_eq_true rfl) (Nat.le_of_ble_eq_true rfl), rfl, hts _ wm_67⟩ ⟨c_blind, fun U hU hW => ⟨rfl, by rw [hU], by rw [hU]; exact hPc, va_K.moved hW.alike hK, hDc.weaken (fun _ _ _ _ => trivial)⟩⟩ rfl rfl hl.1 rfl (lv_room (Nat.le_of_ble_eq_true rfl)) dX5_init_9 ⟨Nat.le_of_ble_eq_true rfl, Nat.le_of_ble_eq_true rfl⟩) hS (fun q _ h => hFc q h) hFc (fun u t H1 locs ht hvm hw hB hz1 hk1 hS => ?_)
  obtain ⟨q1, q2, q3, q4, q5, q6, q7, hP1, hK1, hD1⟩ := hB
  rw [ht] at hP1
  obtain ⟨hP, hD⟩ := va_join (wr := [(h0, .inr (5, [.null, .null, .null, .null, .int 0, .int 0, .int 0, .int 0, .int 0, .int 0, .int 0]))]) (w1 := [(q0, .inr (3, [.int 0, .int 0, .int 0, .int (-1), .int 4, .int 2, .int 3, .int 3, .int 4, .ref q1, .ref q2, .ref q3, .ref q4, .ref q5, .ref q6, .ref q7])), (q1, .inl (kd 0, 40, .inl fun _ => 0)), (q2, .inl (kd 0, 40, .inl fun _ => 0)), (q3, .inl (kd 0, 40, .inl fun _ => 0)), (q4, .inl (kd 0, 40, .inl fun _ => 0)), (q5, .inl (kd 0, 40, .inl fun _ => 0)), (q6, .inl (kd 0, 200, .inl fun _ => 0)), (q7, .inl (kd 0, 40, .inl fun _ => 0))]) hP hD [1] [0] rfl rfl (by decide) (by decide) hk1 hFc hP1 hD1
  clear hP1 hK1 hD1 hPc hDc hFc hk1 hz1
  generalize H1 = H at hP hS ⊢
  have hP : va_P D vwCl [(h0, .inr (5, [.null, .null, .null, .null, .int 0, .int 0, .int 0, .int 0, .int 0, .int 0, .int 0])), (q0, .inr (3, [.int 0, .int 0, .int 0, .int (-1), .int 4, .int 2, .int 3, .int 3, .int 4, .ref q1, .ref q2, .ref q3, .ref q4, .ref q5, .ref q6, .ref q7])), (q1, .inl (kd 0, 40, .inl fun _ => 0)), (q2, .inl (kd 0, 40, .inl fun _ => 0)), (q3, .inl (kd 0, 40, .inl fun _ => 0)), (q4, .inl (kd 0, 40, .inl fun _ => 0)), (q5, .inl (kd 0, 40, .inl fun _ => 0)), (q6, .inl (kd 0, 200, .inl fun _ => 0)), (q7, .inl (kd 0, 40, .inl fun _ => 0))] H := hP
  have hD : va_D A [(h0, .inr (5, [.null, .null, .null, .null, .int 0, .int 0, .int 0, .int 0, .int 0, .int 0, .int 0])), (q0, .inr (3, [.int 0, .int 0, .int 0, .int (-1), .int 4, .int 2, .int 3, .int 3, .int 4, .ref q1, .ref q2, .ref q3, .ref q4, .ref q5, .ref q6, .ref q7])), (q1, .inl (kd 0, 40, .inl fun _ => 0)), (q2, .inl (kd 0, 40, .inl fun _ => 0)), (q3, .inl (kd 0, 40, .inl fun _ => 0)), (q4, .inl (kd 0, 40, .inl fun _ => 0)), (q5, .inl (kd 0, 40, .inl fun _ => 0)), (q6, .inl (kd 0, 200, .inl fun _ => 0)), (q7, .inl (kd 0, 40, .inl fun _ => 0))] := hD
  refine W.widen (k := 8) (n := 456) (by omega) (by omega) ?_
  refine va_putF (D := D) (ci := 5) (v := .ref q0) (ty := tyX5 1) (C := RX5) (T := TX5) (N := 11) hx hb hts inlX5 tyX5 tyX5_ok nmX5 hown hK hP hD hS 0 rfl rfl 1 (by decide) (hts _ wm_60) (fun _ h9 => h9) rfl hin rfl (tyX5_ok 1 (by decide)) rfl rfl (Nat.le_of_ble_eq_true rfl) dX5_init_12 (fun H locs hP hD hS => ?_)
  have hP : va_P D vwCl [(h0, .inr (5, [.null, .ref q0, .null, .null, .int 0, .int 0, .int 0, .int 0, .int 0, .int 0, .int 0])), (q0, .inr (3, [.int 0, .int 0, .int 0, .int (-1), .int 4, .int 2, .int 3, .int 3, .int 4, .ref q1, .ref q2, .ref q3, .ref q4, .ref q5, .ref q6, .ref q7])), (q1, .inl (kd 0, 40, .inl fun _ => 0)), (q2, .inl (kd 0, 40, .inl fun _ => 0)), (q3, .inl (kd 0, 40, .inl fun _ => 0)), (q4, .inl (kd 0, 40, .inl fun _ => 0)), (q5, .inl (kd 0, 40, .inl fun _ => 0)), (q6, .inl (kd 0, 200, .inl fun _ => 0)), (q7, .inl (kd 0, 40, .inl fun _ => 0))] H := hP
  have hD : va_D A [(h0, .inr (5, [.null, .ref q0, .null, .null, .int 0, .int 0, .int 0, .int 0, .int 0, .int 0, .int 0])), (q0, .inr (3, [.int 0, .int 0, .int 0, .int (-1), .int 4, .int 2, .int 3, .int 3, .int 4, .ref q1, .ref q2, .ref q3, .ref q4, .ref q5, .ref q6, .ref q7])), (q1, .inl (kd 0, 40, .inl fun _ => 0)), (q2, .inl (kd 0, 40, .inl fun _ => 0)), (q3, .inl (kd 0, 40, .inl fun _ => 0)), (q4, .inl (kd 0, 40, .inl fun _ => 0)), (q5, .inl (kd 0, 40, .inl fun _ => 0)), (q6, .inl (kd 0, 200, .inl fun _ => 0)), (q7, .inl (kd 0, 40, .inl fun _ => 0))] := hD
  refine lv_aload_n hx hb dX5_init_15 rfl (lv_at hl 0 rfl) ?_
  refine lv_bipush (v := 40) hx hb dX5_init_16 (by decide) ?_
  refine c_newa_boolean (a0 := (40, .inl fun _ => 0)) hx hb (hts _ wm_61) hK hP hD hS hA (fun _ => rfl) (by decide) (by decide) (by decide) (Nat.le_of_ble_eq_true rfl) (Nat.le_of_ble_eq_true rfl) dX5_init_18 (fun q8 H hP hD hS => ?_)
  have hP : va_P D vwCl [(h0, .inr (5, [.null, .ref q0, .null, .null, .int 0, .int 0, .int 0, .int 0, .int 0, .int 0, .int 0])), (q0, .inr (3, [.int 0, .int 0, .int 0, .int (-1), .int 4, .int 2, .int 3, .int 3, .int 4, .ref q1, .ref q2, .ref q3, .ref q4, .ref q5, .ref q6, .ref q7])), (q1, .inl (kd 0, 40, .inl fun _ => 0)), (q2, .inl (kd 0, 40, .inl fun _ => 0)), (q3, .inl (kd 0, 40, .inl fun _ => 0)), (q4, .inl (kd 0, 40, .inl fun _ => 0)), (q5, .inl (kd 0, 40, .inl fun _ => 0)), (q6, .inl (kd 0, 200, .inl fun _ => 0)), (q7, .inl (kd 0, 40, .inl fun _ => 0)), (q8, .inl (kd 1, 40, .inl fun _ => 0))] H := hP
  have hD : va_D A [(h0, .inr (5, [.null, .ref q0, .null, .null, .int 0, .int 0, .int 0, .int 0, .int 0, .int 0, .int 0])), (q0, .inr (3, [.int 0, .int 0, .int 0, .int (-1), .int 4, .int 2, .int 3, .int 3, .int 4, .ref q1, .ref q2, .ref q3, .ref q4, .ref q5, .ref q6, .ref q7])), (q1, .inl (kd 0, 40, .inl fun _ => 0)), (q2, .inl (kd 0, 40, .inl fun _ => 0)), (q3, .inl (kd 0, 40, .inl fun _ => 0)), (q4, .inl (kd 0, 40, .inl fun _ => 0)), (q5, .inl (kd 0, 40, .inl fun _ => 0)), (q6, .inl (kd 0, 200, .inl fun _ => 0)), (q7, .inl (kd 0, 40, .inl fun _ => 0)), (q8, .inl (kd 1, 40, .inl fun _ => 0))] := hD
  refine W.widen (k := 9) (n := 496) (by omega) (by omega) ?_
  refine va_putF (D := D) (ci := 5) (v := .ref q8) (ty := tyX5 2) (C := RX5) (T := TX5) (N := 11) hx hb hts inlX5 tyX5 tyX5_ok nmX5 hown hK hP hD hS 0 rfl rfl 2 (by decide) (hts _ wm_62) (fun _ h9 => h9) rfl hin rfl (tyX5_ok 2 (by decide)) rfl rfl (Nat.le_of_ble_eq_true rfl) dX5_init_20 (fun H locs hP hD hS => ?_)
  have hP : va_P D vwCl [(h0, .inr (5, [.null, .ref q0, .ref q8, .null, .int 0, .int 0, .int 0, .int 0, .int 0, .int 0, .int 0])), (q0, .inr (3, [.int 0, .int 0, .int 0, .int (-1), .int 4, .int 2, .int 3, .int 3, .int 4, .ref q1, .ref q2, .ref q3, .ref q4, .ref q5, .ref q6, .ref q7])), (q1, .inl (kd 0, 40, .inl fun _ => 0)), (q2, .inl (kd 0, 40, .inl fun _ => 0)), (q3, .inl (kd 0, 40, .inl fun _ => 0)), (q4, .inl (kd 0, 40, .inl fun _ => 0)), (q5, .inl (kd 0, 40, .inl fun _ => 0)), (q6, .inl (kd 0, 200, .inl fun _ => 0)), (q7, .inl (kd 0, 40, .inl fun _ => 0)), (q8, .inl (kd 1, 40, .inl fun _ => 0))] H := hP
  have hD : va_D A [(h0, .inr (5, [.null, .ref q0, .ref q8, .null, .int 0, .int 0, .int 0, .int 0, .int 0, .int 0, .int 0])), (q0, .inr (3, [.int 0, .int 0, .int 0, .int (-1), .int 4, .int 2, .int 3, .int 3, .int 4, .ref q1, .ref q2, .ref q3, .ref q4, .ref q5, .ref q6, .ref q7])), (q1, .inl (kd 0, 40, .inl fun _ => 0)), (q2, .inl (kd 0, 40, .inl fun _ => 0)), (q3, .inl (kd 0, 40, .inl fun _ => 0)), (q4, .inl (kd 0, 40, .inl fun _ => 0)), (q5, .inl (kd 0, 40, .inl fun _ => 0)), (q6, .inl (kd 0, 200, .inl fun _ => 0)), (q7, .inl (kd 0, 40, .inl fun _ => 0)), (q8, .inl (kd 1, 40, .inl fun _ => 0))] := hD
  refine lv_aload_n hx hb dX5_init_23 rfl (lv_at hl 0 rfl) ?_
  refine lv_bipush (v := 40) hx hb dX5_init_24 (by decide) ?_
  refine c_newa_boolean (a0 := (40, .inl fun _ => 0)) hx hb (hts _ wm_61) hK hP hD hS hA (fun _ => rfl) (by decide) (by decide) (by decide) (Nat.le_of_ble_eq_true rfl) (Nat.le_of_ble_eq_true rfl) dX5_init_26 (fun q9 H hP hD hS => ?_)
  have hP : va_P D vwCl [(h0, .inr (5, [.null, .ref q0, .ref q8, .null, .int 0, .int 0, .int 0, .int 0, .int 0, .int 0, .int 0])), (q0, .inr (3, [.int 0, .int 0, .int 0, .int (-1), .int 4, .int 2, .int 3, .int 3, .int 4, .ref q1, .ref q2, .ref q3, .ref q4, .ref q5, .ref q6, .ref q7])), (q1, .inl (kd 0, 40, .inl fun _ => 0)), (q2, .inl (kd 0, 40, .inl fun _ => 0)), (q3, .inl (kd 0, 40, .inl fun _ => 0)), (q4, .inl (kd 0, 40, .inl fun _ => 0)), (q5, .inl (kd 0, 40, .inl fun _ => 0)), (q6, .inl (kd 0, 200, .inl fun _ => 0)), (q7, .inl (kd 0, 40, .inl fun _ => 0)), (q8, .inl (kd 1, 40, .inl fun _ => 0)), (q9, .inl (kd 1, 40, .inl fun _ => 0))] H := hP
  have hD : va_D A [(h0, .inr (5, [.null, .ref q0, .ref q8, .null, .int 0, .int 0, .int 0, .int 0, .int 0, .int 0, .int 0])), (q0, .inr (3, [.int 0, .int 0, .int 0, .int (-1), .int 4, .int 2, .int 3, .int 3, .int 4, .ref q1, .ref q2, .ref q3, .ref q4, .ref q5, .ref q6, .ref q7])), (q1, .inl (kd 0, 40, .inl fun _ => 0)), (q2, .inl (kd 0, 40, .inl fun _ => 0)), (q3, .inl (kd 0, 40, .inl fun _ => 0)), (q4, .inl (kd 0, 40, .inl fun _ => 0)), (q5, .inl (kd 0, 40, .inl fun _ => 0)), (q6, .inl (kd 0, 200, .inl fun _ => 0)), (q7, .inl (kd 0, 40, .inl fun _ => 0)), (q8, .inl (kd 1, 40, .inl fun _ => 0)), (q9, .inl (kd 1, 40, .inl fun _ => 0))] := hD
  refine W.widen (k := 10) (n := 536) (by omega) (by omega) ?_
  refine va_putF (D := D) (ci := 5) (v := .ref q9) (ty := tyX5 3) (C := RX5) (T := TX5) (N := 11) hx hb hts inlX5 tyX5 tyX5_ok nmX5 hown hK hP hD hS 0 rfl rfl 3 (by decide) (hts _ wm_63) (fun _ h9 => h9) rfl hin rfl (tyX5_ok 3 (by decide)) rfl rfl (Nat.le_of_ble_eq_true rfl) dX5_init_28 (fun H locs hP hD hS => ?_)
  have hP : va_P D vwCl [(h0, .inr (5, [.null, .ref q0, .ref q8, .ref q9, .int 0, .int 0, .int 0, .int 0, .int 0, .int 0, .int 0])), (q0, .inr (3, [.int 0, .int 0, .int 0, .int (-1), .int 4, .int 2, .int 3, .int 3, .int 4, .ref q1, .ref q2, .ref q3, .ref q4, .ref q5, .ref q6, .ref q7])), (q1, .inl (kd 0, 40, .inl fun _ => 0)), (q2, .inl (kd 0, 40, .inl fun _ => 0)), (q3, .inl (kd 0, 40, .inl fun _ => 0)), (q4, .inl (kd 0, 40, .inl fun _ => 0)), (q5, .inl (kd 0, 40, .inl fun _ => 0)), (q6, .inl (kd 0, 200, .inl fun _ => 0)), (q7, .inl (kd 0, 40, .inl fun _ => 0)), (q8, .inl (kd 1, 40, .inl fun _ => 0)), (q9, .inl (kd 1, 40, .inl fun _ => 0))] H := hP
  have hD : va_D A [(h0, .inr (5, [.null, .ref q0, .ref q8, .ref q9, .int 0, .int 0, .int 0, .int 0, .int 0, .int 0, .int 0])), (q0, .inr (3, [.int 0, .int 0, .int 0, .int (-1), .int 4, .int 2, .int 3, .int 3, .int 4, .ref q1, .ref q2, .ref q3, .ref q4, .ref q5, .ref q6, .ref q7])), (q1, .inl (kd 0, 40, .inl fun _ => 0)), (q2, .inl (kd 0, 40, .inl fun _ => 0)), (q3, .inl (kd 0, 40, .inl fun _ => 0)), (q4, .inl (kd 0, 40, .inl fun _ => 0)), (q5, .inl (kd 0, 40, .inl fun _ => 0)), (q6, .inl (kd 0, 200, .inl fun _ => 0)), (q7, .inl (kd 0, 40, .inl fun _ => 0)), (q8, .inl (kd 1, 40, .inl fun _ => 0)), (q9, .inl (kd 1, 40, .inl fun _ => 0))] := hD
  refine lv_aload_n hx hb dX5_init_31 rfl (lv_at hl 0 rfl) ?_
  refine lv_aload_n hx hb dX5_init_32 rfl (lv_at hl 1 rfl) ?_
  refine va_putF (D := D) (ci := 5) (v := .ref a1) (ty := tyX5 0) (C := RX5) (T := TX5) (N := 11) hx hb hts inlX5 tyX5 tyX5_ok nmX5 hown hK hP hD hS 0 rfl rfl 0 (by decide) (hts _ wm_64) (fun _ h9 => h9) rfl hin rfl (tyX5_ok 0 (by decide)) rfl rfl (Nat.le_of_ble_eq_true rfl) dX5_init_33 (fun H locs hP hD hS => ?_)
  have hP : va_P D vwCl [(h0, .inr (5, [.ref a1, .ref q0, .ref q8, .ref q9, .int 0, .int 0, .int 0, .int 0, .int 0, .int 0, .int 0])), (q0, .inr (3, [.int 0, .int 0, .int 0, .int (-1), .int 4, .int 2, .int 3, .int 3, .int 4, .ref q1, .ref q2, .ref q3, .ref q4, .ref q5, .ref q6, .ref q7])), (q1, .inl (kd 0, 40, .inl fun _ => 0)), (q2, .inl (kd 0, 40, .inl fun _ => 0)), (q3, .inl (kd 0, 40, .inl fun _ => 0)), (q4, .inl (kd 0, 40, .inl fun _ => 0)), (q5, .inl (kd 0, 40, .inl fun _ => 0)), (q6, .inl (kd 0, 200, .inl fun _ => 0)), (q7, .inl (kd 0, 40, .inl fun _ => 0)), (q8, .inl (kd 1, 40, .inl fun _ => 0)), (q9, .inl (kd 1, 40, .inl fun _ => 0))] H := hP
  have hD : va_D A [(h0, .inr (5, [.ref a1, .ref q0, .ref q8, .ref q9, .int 0, .int 0, .int 0, .int 0, .int 0, .int 0, .int 0])), (q0, .inr (3, [.int 0, .int 0, .int 0, .int (-1), .int 4, .int 2, .int 3, .int 3, .int 4, .ref q1, .ref q2, .ref q3, .ref q4, .ref q5, .ref q6, .ref q7])), (q1, .inl (kd 0, 40, .inl fun _ => 0)), (q2, .inl (kd 0, 40, .inl fun _ => 0)), (q3, .inl (kd 0, 40, .inl fun _ => 0)), (q4, .inl (kd 0, 40, .inl fun _ => 0)), (q5, .inl (kd 0, 40, .inl fun _ => 0)), (q6, .inl (kd 0, 200, .inl fun _ => 0)), (q7, .inl (kd 0, 40, .inl fun _ => 0)), (q8, .inl (kd 1, 40, .inl fun _ => 0)), (q9, .inl (kd 1, 40, .inl fun _ => 0))] := hD
  refine lv_aload_n hx hb dX5_init_36 rfl (lv_at hl 0 rfl) ?_
  refine lv_iconst (v := (-1)) hx hb dX5_init_37 (by decide) ?_
  refine va_put (D := D) (ci := 5) (v := .int (-1)) (ty := .int) (C := RX5) (T := TX5) (N := 11) hx hb hts inlX5 tyX5 tyX5_ok nmX5 hown hK hP hD hS 0 rfl rfl 10 (by decide) (hts _ wm_65) (fun _ h9 => h9) rfl (tyX5_ok 10 (by decide)) rfl rfl (Nat.le_of_ble_eq_true rfl) dX5_init_38 (fun H locs hP hD hS => ?_)
  have hP : va_P D vwCl [(h0, .inr (5, [.ref a1, .ref q0, .ref q8, .ref q9, .int 0, .int 0, .int 0, .int 0, .int 0, .int 0, .int (-1)])), (q0, .inr (3, [.int 0, .int 0, .int 0, .int (-1), .int 4, .int 2, .int 3, .int 3, .int 4, .ref q1, .ref q2, .ref q3, .ref q4, .ref q5, .ref q6, .ref q7])), (q1, .inl (kd 0, 40, .inl fun _ => 0)), (q2, .inl (kd 0, 40, .inl fun _ => 0)), (q3, .inl (kd 0, 40, .inl fun _ => 0)), (q4, .inl (kd 0, 40, .inl fun _ => 0)), (q5, .inl (kd 0, 40, .inl fun _ => 0)), (q6, .inl (kd 0, 200, .inl fun _ => 0)), (q7, .inl (kd 0, 40, .inl fun _ => 0)), (q8, .inl (kd 1, 40, .inl fun _ => 0)), (q9, .inl (kd 1, 40, .inl fun _ => 0))] H := hP
  have hD : va_D A [(h0, .inr (5, [.ref a1, .ref q0, .ref q8, .ref q9, .int 0, .int 0, .int 0, .int 0, .int 0, .int 0, .int (-1)])), (q0, .inr (3, [.int 0, .int 0, .int 0, .int (-1), .int 4, .int 2, .int 3, .int 3, .int 4, .ref q1, .ref q2, .ref q3, .ref q4, .ref q5, .ref q6, .ref q7])), (q1, .inl (kd 0, 40, .inl fun _ => 0)), (q2, .inl (kd 0, 40, .inl fun _ => 0)), (q3, .inl (kd 0, 40, .inl fun _ => 0)), (q4, .inl (kd 0, 40, .inl fun _ => 0)), (q5, .inl (kd 0, 40, .inl fun _ => 0)), (q6, .inl (kd 0, 200, .inl fun _ => 0)), (q7, .inl (kd 0, 40, .inl fun _ => 0)), (q8, .inl (kd 1, 40, .inl fun _ => 0)), (q9, .inl (kd 1, 40, .inl fun _ => 0))] := hD
  have hP9 := hP.sub (ws' := [(h0, .inr (5, [.ref a1, .ref q0, .ref q8, .ref q9, .int 0, .int 0, .int 0, .int 0, .int 0, .int 0, .int (-1)])), (q0, .inr (3, [.int 0, .int 0, .int 0, .int (-1), .int 4, .int 2, .int 3, .int 3, .int 4, .ref q1, .ref q2, .ref q3, .ref q4, .ref q5, .ref q6, .ref q7])), (q1, .inl (kd 0, 40, .inl fun _ => 0)), (q2, .inl (kd 0, 40, .inl fun _ => 0)), (q3, .inl (kd 0, 40, .inl fun _ => 0)), (q4, .inl (kd 0, 40, .inl fun _ => 0)), (q5, .inl (kd 0, 40, .inl fun _ => 0)), (q6, .inl (kd 0, 200, .inl fun _ => 0)), (q7, .inl (kd 0, 40, .inl fun _ => 0)), (q8, .inl (kd 1, 40, .inl fun _ => 0)), (q9, .inl (kd 1, 40, .inl fun _ => 0))]) [0, 1, 2, 3, 4, 5, 6, 7, 8, 9, 10] rfl
  have hD9 := hD.sub (ws' := [(h0, .inr (5, [.ref a1, .ref q0, .ref q8, .ref q9, .int 0, .int 0, .int 0, .int 0, .int 0, .int 0, .int (-1)])), (q0, .inr (3, [.int 0, .int 0, .int 0, .int (-1), .int 4, .int 2, .int 3, .int 3, .int 4, .ref q1, .ref q2, .ref q3, .ref q4, .ref q5, .ref q6, .ref q7])), (q1, .inl (kd 0, 40, .inl fun _ => 0)), (q2, .inl (kd 0, 40, .inl fun _ => 0)), (q3, .inl (kd 0, 40, .inl fun _ => 0)), (q4, .inl (kd 0, 40, .inl fun _ => 0)), (q5, .inl (kd 0, 40, .inl fun _ => 0)), (q6, .inl (kd 0, 200, .inl fun _ => 0)), (q7, .inl (kd 0, 40, .inl fun _ => 0)), (q8, .inl (kd 1, 40, .inl fun _ => 0)), (q9, .inl (kd 1, 40, .inl fun _ => 0))]) [0, 1, 2, 3, 4, 5, 6, 7, 8, 9, 10] (by decide) rfl
  exact W.vret hx hb hr (fun t ht hW => ⟨⟨(), rfl, trivial, q0, q1, q2, q3, q4, q5, q6, q7, q8, q9, by rw [ht]; exact hP9, va_K.moved hW.alike hK, hD9⟩, hS.F ht⟩) hS.2.2 dX5_init_41
theorem glc_X2_9 : g_L RX2 9 yX4_init cX4_init 2 none 1 := ⟨wm_97, wm_111, wm_27, by decide, by decide, by decide +kernel⟩
set_option maxRecDepth 100000 in
set_option maxHeartbeats 40000000 in
theorem c_X2_init (l : Launch) (D : va_G) (kd : Nat → ClassId) (h0 a1 : Nat) (sz : Nat) : Met l yX2_init (Cond.code yX2_init cX2_init 2 none :: wsL_law) ({ frames := 2, cells := 3, slots := 91, locals := 33 }) (va_Pc [.ref h0, .ref a1] (fun U => U.heap.size = sz ∧ va_P D vwCl [(h0, .inr (2, [.null, .int 0]))] U.heap ∧ va_K D vwCl (g_tys kd) U ∧ va_D (fun _ => True) [(h0, .inr (2, [.null, .int 0]))])) (va_Qv (fun _ : Unit => True) (fun _ t => ∃ q0 q1 q2, va_P D vwCl [(h0, .inr (2, [.ref q0, .int 0])), (q0, .inr (4, [.ref a1, .ref q1, .ref q2, .int (-1), .int (-1), .int (-1), .int 0, .int 0, .int 0, .int 0, .int 0])), (q1, .inl (kd 0, 40, .inl fun _ => 0)), (q2, .inl (kd 0, 40, .inl fun _ => 0))] t.heap ∧ va_K D vwCl (g_tys kd) t ∧ va_D (va_A [(h0, .inr (2, [.null, .int 0]))] sz) [(h0, .inr (2, [.ref q0, .int 0])), (q0, .inr (4, [.ref a1, .ref q1, .ref q2, .int (-1), .int (-1), .int (-1), .int 0, .int 0, .int 0, .int 0, .int 0])), (q1, .inl (kd 0, 40, .inl fun _ => 0)), (q2, .inl (kd 0, 40, .inl fun _ => 0))]) (va_A [(h0, .inr (2, [.null, .int 0]))] sz)) 3 91 (va_A [(h0, .inr (2, [.null, .int 0]))] sz) := by
  refine Met.ofW (cc := cX2_init) (maxL := 2) (ret := none) (by decide) rfl ?_
  intro p e s m args below meth c s₁ B hml hv
  obtain ⟨rfl, hsz, hP, hK, hD0⟩ := hv
  have hx := B.exec
  have hb := B.bytes
  have hr := B.returns
  have hts0 := atoms_spec (ws := Cond.code yX2_init cX2_init 2 none :: wsL_law) B.pre
  have hts : ∀ w ∈ wsL_law, w.before _ s = true := fun w hw => hts0 w (List.mem_cons_of_mem _ hw)
  have hown : s.vm.findClass RX2 = some m.cls := findClass_of_methodNamed B.named
  have hin : meth.name = "<init>" := (name_of_methodNamed B.named B.method).1
  subst hsz
  have hD := hD0.self (sz := s.heap.size)
  generalize hAe : va_A [(h0, .inr (2, [.null, .int 0]))] s.heap.size = A at hD ⊢
  have hA : ∀ q : Nat, s.heap.size ≤ q → A q := fun q h => by rw [← hAe]; exact Or.inr h
  have hS : va_S A s.heap s.heap [] := va_S.rf
  have hl := lv_entry ([.ref h0, .ref a1]) (n := 2) (Nat.le_of_ble_eq_true rfl)
  rw [lg_entry_eq]
  generalize (lg_sl ([.ref h0, .ref a1]) ++ List.replicate (2 - (lg_sl ([.ref h0, .ref a1])).length) Slot.unset).toArray = ls at hl ⊢
  have hl : lv_has ls 2 [(0, .ref h0), (1, .ref a1)] := hl
  refine lv_aload_n hx hb dX2_init_0 rfl (lv_at hl 0 rfl) ?_
  refine W.objInit hx hb hown (hts _ wm_108) (hts _ wm_11) (hts _ wm_12) rfl (by rw [hml]; exact hl.1) rfl dX2_init_1 (Nat.le_of_ble_eq_true rfl) (Nat.le_of_ble_eq_true rfl) ?_
  refine W.eq (g2 := F0 m 4 ls []) rfl ?_
  refine lv_aload_n hx hb dX2_init_4 rfl (lv_at hl 0 rfl) ?_
  refine va_new (ci := 4) (fs := [.null, .null, .null, .int 0, .int 0, .int 0, .int 0, .int 0, .int 0, .int 0, .int 0]) (C := RX4) (T := TX4) (N := 11) hx hb hts inlX4 tyX4 tyX4_ok hown (hts _ wm_109) (hts _ wm_26) (hts _ wm_27) hK hP hD hS hA rfl (fun j hj => by rcases (show j = 0 ∨ j = 1 ∨ j = 2 ∨ j = 3 ∨ j = 4 ∨ j = 5 ∨ j = 6 ∨ j = 7 ∨ j = 8 ∨ j = 9 ∨ j = 10 by omega) with rfl | rfl | rfl | rfl | rfl | rfl | rfl | rfl | rfl | rfl | rfl <;> rfl) (Nat.le_of_ble_eq_true rfl) (Nat.le_of_ble_eq_true rfl) dX2_init_5 (fun q0 H hP hD hS => ?_)
  have hP : va_P D vwCl [(h0, .inr (2, [.null, .int 0])), (q0, .inr (4, [.null, .null, .null, .int 0, .int 0, .int 0, .int 0, .int 0, .int 0, .int 0, .int 0]))] H := hP
  have hD : va_D A [(h0, .inr (2, [.null, .int 0])), (q0, .inr (4, [.null, .null, .null, .int 0, .int 0, .int 0, .int 0, .int 0, .int 0, .int 0, .int 0]))] := hD
  refine W.widen (k := 1) (n := 11) (by omega) (by omega) ?_
  refine lv_dup hx hb dX2_init_8 rfl ?_
  refine lv_aload_n hx hb dX2_init_9 rfl (lv_at hl 1 rfl) ?_
  have hPc := hP.sub (ws' := [(q0, .inr (4, [.null, .null, .null, .int 0, .int 0, .int 0, .int 0, .int 0, .int 0, .int 0, .int 0]))]) [1] rfl
  have hDc := hD.sub (ws' := [(q0, .inr (4, [.null, .null, .null, .int 0, .int 0, .int 0, .int 0, .int 0, .int 0, .int 0, .int 0]))]) [1] (by decide) rfl
  have hFc := va_free (wc := [(q0, .inr (4, [.null, .null, .null, .int 0, .int 0, .int 0, .int 0, .int 0, .int 0, .int 0, .int 0]))]) hD hS hA [1] rfl
  refine va_callv (va_runI (As := [.ref a1]) (rest := [.ref q0, .ref h0]) ⟨hx, hb, hml, hown, hts⟩ (c_X4_init l D kd q0 a1 H.size) ⟨g_callR glc_X2_9 hts rfl rfl (Nat.le_of_ble_eq_true rfl) (Nat.le_of_ble_eq_true rfl), rfl, hts _ wm_96⟩ ⟨c_blind, fun U hU hW => ⟨rfl, by rw [hU], by rw [hU]; exact hPc, va_K.moved hW.alike hK, hDc.weaken (fun _ _ _ _ => trivial)⟩⟩ rfl rfl hl.1 rfl (lv_room (Nat.le_of_ble_eq_true rfl)) dX2_init_10 ⟨Nat.le_of_ble_eq_true rfl, Nat.le_of_ble_eq_true rfl⟩) hS (fun q _ h => hFc q h) hFc (fun u t H1 locs ht hvm hw hB hz1 hk1 hS => ?_)
  obtain ⟨q1, q2, hP1, hK1, hD1⟩ := hB
  rw [ht] at hP1
  obtain ⟨hP, hD⟩ := va_join (wr := [(h0, .inr (2, [.null, .int 0]))]) (w1 := [(q0, .inr (4, [.ref a1, .ref q1, .ref q2, .int (-1), .int (-1), .int (-1), .int 0, .int 0, .int 0, .int 0, .int 0])), (q1, .inl (kd 0, 40, .inl fun _ => 0)), (q2, .inl (kd 0, 40, .inl fun _ => 0))]) hP hD [1] [0] rfl rfl (by decide) (by decide) hk1 hFc hP1 hD1
  clear hP1 hK1 hD1 hPc hDc hFc hk1 hz1
  generalize H1 = H at hP hS ⊢
  have hP : va_P D vwCl [(h0, .inr (2, [.null, .int 0])), (q0, .inr (4, [.ref a1, .ref q1, .ref q2, .int (-1), .int (-1), .int (-1), .int 0, .int 0, .int 0, .int 0, .int 0])), (q1, .inl (kd 0, 40, .inl fun _ => 0)), (q2, .inl (kd 0, 40, .inl fun _ => 0))] H := hP
  have hD : va_D A [(h0, .inr (2, [.null, .int 0])), (q0, .inr (4, [.ref a1, .ref q1, .ref q2, .int (-1), .int (-1), .int (-1), .int 0, .int 0, .int 0, .int 0, .int 0])), (q1, .inl (kd 0, 40, .inl fun _ => 0)), (q2, .inl (kd 0, 40, .inl fun _ => 0))] := hD
  refine W.widen (k := 3) (n := 91) (by omega) (by omega) ?_
  refine va_putF (D := D) (ci := 2) (v := .ref q0) (ty := tyX2 0) (C := RX2) (T := TX2) (N := 2) hx hb hts inlX2 tyX2 tyX2_ok nmX2 hown hK hP hD hS 0 rfl rfl 0 (by decide) (hts _ wm_110) (fun _ h9 => h9) rfl hin rfl (tyX2_ok 0 (by decide)) rfl rfl (Nat.le_of_ble_eq_true rfl) dX2_init_13 (fun H locs hP hD hS => ?_)
  have hP : va_P D vwCl [(h0, .inr (2, [.ref q0, .int 0])), (q0, .inr (4, [.ref a1, .ref q1, .ref q2, .int (-1), .int (-1), .int (-1), .int 0, .int 0, .int 0, .int 0, .int 0])), (q1, .inl (kd 0, 40, .inl fun _ => 0)), (q2, .inl (kd 0, 40, .inl fun _ => 0))] H := hP
  have hD : va_D A [(h0, .inr (2, [.ref q0, .int 0])), (q0, .inr (4, [.ref a1, .ref q1, .ref q2, .int (-1), .int (-1), .int (-1), .int 0, .int 0, .int 0, .int 0, .int 0])), (q1, .inl (kd 0, 40, .inl fun _ => 0)), (q2, .inl (kd 0, 40, .inl fun _ => 0))] := hD
  have hP9 := hP.sub (ws' := [(h0, .inr (2, [.ref q0, .int 0])), (q0, .inr (4, [.ref a1, .ref q1, .ref q2, .int (-1), .int (-1), .int (-1), .int 0, .int 0, .int 0, .int 0, .int 0])), (q1, .inl (kd 0, 40, .inl fun _ => 0)), (q2, .inl (kd 0, 40, .inl fun _ => 0))]) [0, 1, 2, 3] rfl
  have hD9 := hD.sub (ws' := [(h0, .inr (2, [.ref q0, .int 0])), (q0, .inr (4, [.ref a1, .ref q1, .ref q2, .int (-1), .int (-1), .int (-1), .int 0, .int 0, .int 0, .int 0, .int 0])), (q1, .inl (kd 0, 40, .inl fun _ => 0)), (q2, .inl (kd 0, 40, .inl fun _ => 0))]) [0, 1, 2, 3] (by decide) rfl
  exact W.vret hx hb hr (fun t ht hW => ⟨⟨(), rfl, trivial, q0, q1, q2, by rw [ht]; exact hP9, va_K.moved hW.alike hK, hD9⟩, hS.F ht⟩) hS.2.2 dX2_init_16
set_option maxRecDepth 100000 in
set_option maxHeartbeats 40000000 in
theorem c_X1_init (l : Launch) (D : va_G) (kd : Nat → ClassId) (h0 a1 a2 : Nat) (sz : Nat) : Met l yX1_init (Cond.code yX1_init cX1_init 3 none :: wsL_law) ({ frames := 1, cells := 4, slots := 160, locals := 12 }) (va_Pc [.ref h0, .ref a1, .ref a2] (fun U => U.heap.size = sz ∧ va_P D vwCl [(h0, .inr (1, [.null, .null, .null, .null, .null, .null]))] U.heap ∧ va_K D vwCl (g_tys kd) U ∧ va_D (fun _ => True) [(h0, .inr (1, [.null, .null, .null, .null, .null, .null]))])) (va_Qv (fun _ : Unit => True) (fun _ t => ∃ q0 q1 q2 q3, va_P D vwCl [(h0, .inr (1, [.ref a1, .ref a2, .ref q0, .ref q1, .ref q2, .ref q3])), (q0, .inl (kd 0, 40, .inl fun _ => 0)), (q1, .inl (kd 0, 40, .inl fun _ => 0)), (q2, .inl (kd 2, 40, .inr (.inl fun _ => 0))), (q3, .inl (kd 2, 40, .inr (.inl fun _ => 0)))] t.heap ∧ va_K D vwCl (g_tys kd) t ∧ va_D (va_A [(h0, .inr (1, [.null, .null, .null, .null, .null, .null]))] sz) [(h0, .inr (1, [.ref a1, .ref a2, .ref q0, .ref q1, .ref q2, .ref q3])), (q0, .inl (kd 0, 40, .inl fun _ => 0)), (q1, .inl (kd 0, 40, .inl fun _ => 0)), (q2, .inl (kd 2, 40, .inr (.inl fun _ => 0))), (q3, .inl (kd 2, 40, .inr (.inl fun _ => 0)))]) (va_A [(h0, .inr (1, [.null, .null, .null, .null, .null, .null]))] sz)) 4 160 (va_A [(h0, .inr (1, [.null, .null, .null, .null, .null, .null]))] sz) := by
  refine Met.ofW (cc := cX1_init) (maxL := 3) (ret := none) (by decide) rfl ?_
  intro p e s m args below meth c s₁ B hml hv
  obtain ⟨rfl, hsz, hP, hK, hD0⟩ := hv
  have hx := B.exec
  have hb := B.bytes
  have hr := B.returns
  have hts0 := atoms_spec (ws := Cond.code yX1_init cX1_init 3 none :: wsL_law) B.pre
  have hts : ∀ w ∈ wsL_law, w.before _ s = true := fun w hw => hts0 w (List.mem_cons_of_mem _ hw)
  have hown : s.vm.findClass RX1 = some m.cls := findClass_of_methodNamed B.named
  have hin : meth.name = "<init>" := (name_of_methodNamed B.named B.method).1
  subst hsz
  have hD := hD0.self (sz := s.heap.size)
  generalize hAe : va_A [(h0, .inr (1, [.null, .null, .null, .null, .null, .null]))] s.heap.size = A at hD ⊢
  have hA : ∀ q : Nat, s.heap.size ≤ q → A q := fun q h => by rw [← hAe]; exact Or.inr h
  have hS : va_S A s.heap s.heap [] := va_S.rf
  have hl := lv_entry ([.ref h0, .ref a1, .ref a2]) (n := 3) (Nat.le_of_ble_eq_true rfl)
  rw [lg_entry_eq]
  generalize (lg_sl ([.ref h0, .ref a1, .ref a2]) ++ List.replicate (3 - (lg_sl ([.ref h0, .ref a1, .ref a2])).length) Slot.unset).toArray = ls at hl ⊢
  have hl : lv_has ls 3 [(0, .ref h0), (1, .ref a1), (2, .ref a2)] := hl
  refine lv_aload_n hx hb dX1_init_0 rfl (lv_at hl 0 rfl) ?_
  refine W.objInit hx hb hown (hts _ wm_115) (hts _ wm_11) (hts _ wm_12) rfl (by rw [hml]; exact hl.1) rfl dX1_init_1 (Nat.le_of_ble_eq_true rfl) (Nat.le_of_ble_eq_true rfl) ?_
  refine W.eq (g2 := F0 m 4 ls []) rfl ?_
  refine lv_aload_n hx hb dX1_init_4 rfl (lv_at hl 0 rfl) ?_
  refine lv_bipush (v := 40) hx hb dX1_init_5 (by decide) ?_
  refine c_newa_int (a0 := (40, .inl fun _ => 0)) hx hb (hts _ wm_53) hK hP hD hS hA (fun _ => rfl) (by decide) (by decide) (by decide) (Nat.le_of_ble_eq_true rfl) (Nat.le_of_ble_eq_true rfl) dX1_init_7 (fun q0 H hP hD hS => ?_)
  have hP : va_P D vwCl [(h0, .inr (1, [.null, .null, .null, .null, .null, .null])), (q0, .inl (kd 0, 40, .inl fun _ => 0))] H := hP
  have hD : va_D A [(h0, .inr (1, [.null, .null, .null, .null, .null, .null])), (q0, .inl (kd 0, 40, .inl fun _ => 0))] := hD
  refine W.widen (k := 1) (n := 40) (by omega) (by omega) ?_
  refine va_putF (D := D) (ci := 1) (v := .ref q0) (ty := tyX1 2) (C := RX1) (T := TX1) (N := 6) hx hb hts inlX1 tyX1 tyX1_ok nmX1 hown hK hP hD hS 0 rfl rfl 2 (by decide) (hts _ wm_116) (fun _ h9 => h9) rfl hin rfl (tyX1_ok 2 (by decide)) rfl rfl (Nat.le_of_ble_eq_true rfl) dX1_init_9 (fun H locs hP hD hS => ?_)
  have hP : va_P D vwCl [(h0, .inr (1, [.null, .null, .ref q0, .null, .null, .null])), (q0, .inl (kd 0, 40, .inl fun _ => 0))] H := hP
  have hD : va_D A [(h0, .inr (1, [.null, .null, .ref q0, .null, .null, .null])), (q0, .inl (kd 0, 40, .inl fun _ => 0))] := hD
  refine lv_aload_n hx hb dX1_init_12 rfl (lv_at hl 0 rfl) ?_
  refine lv_bipush (v := 40) hx hb dX1_init_13 (by decide) ?_
  refine c_newa_int (a0 := (40, .inl fun _ => 0)) hx hb (hts _ wm_53) hK hP hD hS hA (fun _ => rfl) (by decide) (by decide) (by decide) (Nat.le_of_ble_eq_true rfl) (Nat.le_of_ble_eq_true rfl) dX1_init_15 (fun q1 H hP hD hS => ?_)
  have hP : va_P D vwCl [(h0, .inr (1, [.null, .null, .ref q0, .null, .null, .null])), (q0, .inl (kd 0, 40, .inl fun _ => 0)), (q1, .inl (kd 0, 40, .inl fun _ => 0))] H := hP
  have hD : va_D A [(h0, .inr (1, [.null, .null, .ref q0, .null, .null, .null])), (q0, .inl (kd 0, 40, .inl fun _ => 0)), (q1, .inl (kd 0, 40, .inl fun _ => 0))] := hD
  refine W.widen (k := 2) (n := 80) (by omega) (by omega) ?_
  refine va_putF (D := D) (ci := 1) (v := .ref q1) (ty := tyX1 3) (C := RX1) (T := TX1) (N := 6) hx hb hts inlX1 tyX1 tyX1_ok nmX1 hown hK hP hD hS 0 rfl rfl 3 (by decide) (hts _ wm_117) (fun _ h9 => h9) rfl hin rfl (tyX1_ok 3 (by decide)) rfl rfl (Nat.le_of_ble_eq_true rfl) dX1_init_17 (fun H locs hP hD hS => ?_)
  have hP : va_P D vwCl [(h0, .inr (1, [.null, .null, .ref q0, .ref q1, .null, .null])), (q0, .inl (kd 0, 40, .inl fun _ => 0)), (q1, .inl (kd 0, 40, .inl fun _ => 0))] H := hP
  have hD : va_D A [(h0, .inr (1, [.null, .null, .ref q0, .ref q1, .null, .null])), (q0, .inl (kd 0, 40, .inl fun _ => 0)), (q1, .inl (kd 0, 40, .inl fun _ => 0))] := hD
  refine lv_aload_n hx hb dX1_init_20 rfl (lv_at hl 0 rfl) ?_
  refine lv_bipush (v := 40) hx hb dX1_init_21 (by decide) ?_
  refine c_newa_long (a0 := (40, .inr (.inl fun _ => 0))) hx hb (hts _ wm_118) hK hP hD hS hA (fun _ => rfl) (by decide) (by decide) (by decide) (Nat.le_of_ble_eq_true rfl) (Nat.le_of_ble_eq_true rfl) dX1_init_23 (fun q2 H hP hD hS => ?_)
  have hP : va_P D vwCl [(h0, .inr (1, [.null, .null, .ref q0, .ref q1, .null, .null])), (q0, .inl (kd 0, 40, .inl fun _ => 0)), (q1, .inl (kd 0, 40, .inl fun _ => 0)), (q2, .inl (kd 2, 40, .inr (.inl fun _ => 0)))] H := hP
  have hD : va_D A [(h0, .inr (1, [.null, .null, .ref q0, .ref q1, .null, .null])), (q0, .inl (kd 0, 40, .inl fun _ => 0)), (q1, .inl (kd 0, 40, .inl fun _ => 0)), (q2, .inl (kd 2, 40, .inr (.inl fun _ => 0)))] := hD
  refine W.widen (k := 3) (n := 120) (by omega) (by omega) ?_
  refine va_putF (D := D) (ci := 1) (v := .ref q2) (ty := tyX1 4) (C := RX1) (T := TX1) (N := 6) hx hb hts inlX1 tyX1 tyX1_ok nmX1 hown hK hP hD hS 0 rfl rfl 4 (by decide) (hts _ wm_119) (fun _ h9 => h9) rfl hin rfl (tyX1_ok 4 (by decide)) rfl rfl (Nat.le_of_ble_eq_true rfl) dX1_init_25 (fun H locs hP hD hS => ?_)
  have hP : va_P D vwCl [(h0, .inr (1, [.null, .null, .ref q0, .ref q1, .ref q2, .null])), (q0, .inl (kd 0, 40, .inl fun _ => 0)), (q1, .inl (kd 0, 40, .inl fun _ => 0)), (q2, .inl (kd 2, 40, .inr (.inl fun _ => 0)))] H := hP
  have hD : va_D A [(h0, .inr (1, [.null, .null, .ref q0, .ref q1, .ref q2, .null])), (q0, .inl (kd 0, 40, .inl fun _ => 0)), (q1, .inl (kd 0, 40, .inl fun _ => 0)), (q2, .inl (kd 2, 40, .inr (.inl fun _ => 0)))] := hD
  refine lv_aload_n hx hb dX1_init_28 rfl (lv_at hl 0 rfl) ?_
  refine lv_bipush (v := 40) hx hb dX1_init_29 (by decide) ?_
  refine c_newa_long (a0 := (40, .inr (.inl fun _ => 0))) hx hb (hts _ wm_118) hK hP hD hS hA (fun _ => rfl) (by decide) (by decide) (by decide) (Nat.le_of_ble_eq_true rfl) (Nat.le_of_ble_eq_true rfl) dX1_init_31 (fun q3 H hP hD hS => ?_)
  have hP : va_P D vwCl [(h0, .inr (1, [.null, .null, .ref q0, .ref q1, .ref q2, .null])), (q0, .inl (kd 0, 40, .inl fun _ => 0)), (q1, .inl (kd 0, 40, .inl fun _ => 0)), (q2, .inl (kd 2, 40, .inr (.inl fun _ => 0))), (q3, .inl (kd 2, 40, .inr (.inl fun _ => 0)))] H := hP
  have hD : va_D A [(h0, .inr (1, [.null, .null, .ref q0, .ref q1, .ref q2, .null])), (q0, .inl (kd 0, 40, .inl fun _ => 0)), (q1, .inl (kd 0, 40, .inl fun _ => 0)), (q2, .inl (kd 2, 40, .inr (.inl fun _ => 0))), (q3, .inl (kd 2, 40, .inr (.inl fun _ => 0)))] := hD
  refine W.widen (k := 4) (n := 160) (by omega) (by omega) ?_
  refine va_putF (D := D) (ci := 1) (v := .ref q3) (ty := tyX1 5) (C := RX1) (T := TX1) (N := 6) hx hb hts inlX1 tyX1 tyX1_ok nmX1 hown hK hP hD hS 0 rfl rfl 5 (by decide) (hts _ wm_120) (fun _ h9 => h9) rfl hin rfl (tyX1_ok 5 (by decide)) rfl rfl (Nat.le_of_ble_eq_true rfl) dX1_init_33 (fun H locs hP hD hS => ?_)
  have hP : va_P D vwCl [(h0, .inr (1, [.null, .null, .ref q0, .ref q1, .ref q2, .ref q3])), (q0, .inl (kd 0, 40, .inl fun _ => 0)), (q1, .inl (kd 0, 40, .inl fun _ => 0)), (q2, .inl (kd 2, 40, .inr (.inl fun _ => 0))), (q3, .inl (kd 2, 40, .inr (.inl fun _ => 0)))] H := hP
  have hD : va_D A [(h0, .inr (1, [.null, .null, .ref q0, .ref q1, .ref q2, .ref q3])), (q0, .inl (kd 0, 40, .inl fun _ => 0)), (q1, .inl (kd 0, 40, .inl fun _ => 0)), (q2, .inl (kd 2, 40, .inr (.inl fun _ => 0))), (q3, .inl (kd 2, 40, .inr (.inl fun _ => 0)))] := hD
  refine lv_aload_n hx hb dX1_init_36 rfl (lv_at hl 0 rfl) ?_
  refine lv_aload_n hx hb dX1_init_37 rfl (lv_at hl 1 rfl) ?_
  refine va_putF (D := D) (ci := 1) (v := .ref a1) (ty := tyX1 0) (C := RX1) (T := TX1) (N := 6) hx hb hts inlX1 tyX1 tyX1_ok nmX1 hown hK hP hD hS 0 rfl rfl 0 (by decide) (hts _ wm_121) (fun _ h9 => h9) rfl hin rfl (tyX1_ok 0 (by decide)) rfl rfl (Nat.le_of_ble_eq_true rfl) dX1_init_38 (fun H locs hP hD hS => ?_)
  have hP : va_P D vwCl [(h0, .inr (1, [.ref a1, .null, .ref q0, .ref q1, .ref q2, .ref q3])), (q0, .inl (kd 0, 40, .inl fun _ => 0)), (q1, .inl (kd 0, 40, .inl fun _ => 0)), (q2, .inl (kd 2, 40, .inr (.inl fun _ => 0))), (q3, .inl (kd 2, 40, .inr (.inl fun _ => 0)))] H := hP
  have hD : va_D A [(h0, .inr (1, [.ref a1, .null, .ref q0, .ref q1, .ref q2, .ref q3])), (q0, .inl (kd 0, 40, .inl fun _ => 0)), (q1, .inl (kd 0, 40, .inl fun _ => 0)), (q2, .inl (kd 2, 40, .inr (.inl fun _ => 0))), (q3, .inl (kd 2, 40, .inr (.inl fun _ => 0)))] := hD
  refine lv_aload_n hx hb dX1_init_41 rfl (lv_at hl 0 rfl) ?_
  refine lv_aload_n hx hb dX1_init_42 rfl (lv_at hl 2 rfl) ?_
  refine va_putF (D := D) (ci := 1) (v := .ref a2) (ty := tyX1 1) (C := RX1) (T := TX1) (N := 6) hx hb hts inlX1 tyX1 tyX1_ok nmX1 hown hK hP hD hS 0 rfl rfl 1 (by decide) (hts _ wm_122) (fun _ h9 => h9) rfl hin rfl (tyX1_ok 1 (by decide)) rfl rfl (Nat.le_of_ble_eq_true rfl) dX1_init_43 (fun H locs hP hD hS => ?_)
  have hP : va_P D vwCl [(h0, .inr (1, [.ref a1, .ref a2, .ref q0, .ref q1, .ref q2, .ref q3])), (q0, .inl (kd 0, 40, .inl fun _ => 0)), (q1, .inl (kd 0, 40, .inl fun _ => 0)), (q2, .inl (kd 2, 40, .inr (.inl fun _ => 0))), (q3, .inl (kd 2, 40, .inr (.inl fun _ => 0)))] H := hP
  have hD : va_D A [(h0, .inr (1, [.ref a1, .ref a2, .ref q0, .ref q1, .ref q2, .ref q3])), (q0, .inl (kd 0, 40, .inl fun _ => 0)), (q1, .inl (kd 0, 40, .inl fun _ => 0)), (q2, .inl (kd 2, 40, .inr (.inl fun _ => 0))), (q3, .inl (kd 2, 40, .inr (.inl fun _ => 0)))] := hD
  have hP9 := hP.sub (ws' := [(h0, .inr (1, [.ref a1, .ref a2, .ref q0, .ref q1, .ref q2, .ref q3])), (q0, .inl (kd 0, 40, .inl fun _ => 0)), (q1, .inl (kd 0, 40, .inl fun _ => 0)), (q2, .inl (kd 2, 40, .inr (.inl fun _ => 0))), (q3, .inl (kd 2, 40, .inr (.inl fun _ => 0)))]) [0, 1, 2, 3, 4] rfl
  have hD9 := hD.sub (ws' := [(h0, .inr (1, [.ref a1, .ref a2, .ref q0, .ref q1, .ref q2, .ref q3])), (q0, .inl (kd 0, 40, .inl fun _ => 0)), (q1, .inl (kd 0, 40, .inl fun _ => 0)), (q2, .inl (kd 2, 40, .inr (.inl fun _ => 0))), (q3, .inl (kd 2, 40, .inr (.inl fun _ => 0)))]) [0, 1, 2, 3, 4] (by decide) rfl
  exact W.vret hx hb hr (fun t ht hW => ⟨⟨(), rfl, trivial, q0, q1, q2, q3, by rw [ht]; exact hP9, va_K.moved hW.alike hK, hD9⟩, hS.F ht⟩) hS.2.2 dX1_init_46
set_option maxRecDepth 100000 in
set_option maxHeartbeats 40000000 in
theorem c_X8_init (l : Launch) (D : va_G) (kd : Nat → ClassId) (h0 a1 a2 a3 : Nat) (sz : Nat) : Met l yX8_init (Cond.code yX8_init cX8_init 4 none :: wsL_law) ({ frames := 1, cells := 2, slots := 80, locals := 12 }) (va_Pc [.ref h0, .ref a1, .ref a2, .ref a3] (fun U => U.heap.size = sz ∧ va_P D vwCl [(h0, .inr (8, [.null, .null, .null, .null, .null, .int 0, .int 0, .int 0, .int 0]))] U.heap ∧ va_K D vwCl (g_tys kd) U ∧ va_D (fun _ => True) [(h0, .inr (8, [.null, .null, .null, .null, .null, .int 0, .int 0, .int 0, .int 0]))])) (va_Qv (fun _ : Unit => True) (fun _ t => ∃ q0 q1, va_P D vwCl [(h0, .inr (8, [.ref a1, .ref a2, .ref a3, .ref q0, .ref q1, .int 0, .int 0, .int 0, .int 0])), (q0, .inl (kd 0, 40, .inl fun _ => 0)), (q1, .inl (kd 0, 40, .inl fun _ => 0))] t.heap ∧ va_K D vwCl (g_tys kd) t ∧ va_D (va_A [(h0, .inr (8, [.null, .null, .null, .null, .null, .int 0, .int 0, .int 0, .int 0]))] sz) [(h0, .inr (8, [.ref a1, .ref a2, .ref a3, .ref q0, .ref q1, .int 0, .int 0, .int 0, .int 0])), (q0, .inl (kd 0, 40, .inl fun _ => 0)), (q1, .inl (kd 0, 40, .inl fun _ => 0))]) (va_A [(h0, .inr (8, [.null, .null, .null, .null, .null, .int 0, .int 0, .int 0, .int 0]))] sz)) 2 80 (va_A [(h0, .inr (8, [.null, .null, .null, .null, .null, .int 0, .int 0, .int 0, .int 0]))] sz) := by
  refine Met.ofW (cc := cX8_init) (maxL := 4) (ret := none) (by decide) rfl ?_
  intro p e s m args below meth c s₁ B hml hv
  obtain ⟨rfl, hsz, hP, hK, hD0⟩ := hv
  have hx := B.exec
  have hb := B.bytes
  have hr := B.returns
  have hts0 := atoms_spec (ws := Cond.code yX8_init cX8_init 4 none :: wsL_law) B.pre
  have hts : ∀ w ∈ wsL_law, w.before _ s = true := fun w hw => hts0 w (List.mem_cons_of_mem _ hw)
  have hown : s.vm.findClass RX8 = some m.cls := findClass_of_methodNamed B.named
  have hin : meth.name = "<init>" := (name_of_methodNamed B.named B.method).1
  subst hsz
  have hD := hD0.self (sz := s.heap.size)
  generalize hAe : va_A [(h0, .inr (8, [.null, .null, .null, .null, .null, .int 0, .int 0, .int 0, .int 0]))] s.heap.size = A at hD ⊢
  have hA : ∀ q : Nat, s.heap.size ≤ q → A q := fun q h => by rw [← hAe]; exact Or.inr h
  have hS : va_S A s.heap s.heap [] := va_S.rf
  have hl := lv_entry ([.ref h0, .ref a1, .ref a2, .ref a3]) (n := 4) (Nat.le_of_ble_eq_true rfl)
  rw [lg_entry_eq]
  generalize (lg_sl ([.ref h0, .ref a1, .ref a2, .ref a3]) ++ List.replicate (4 - (lg_sl ([.ref h0, .ref a1, .ref a2, .ref a3])).length) Slot.unset).toArray = ls at hl ⊢
  have hl : lv_has ls 4 [(0, .ref h0), (1, .ref a1), (2, .ref a2), (3, .ref a3)] := hl
  refine lv_aload_n hx hb dX8_init_0 rfl (lv_at hl 0 rfl) ?_
  refine W.objInit hx hb hown (hts _ wm_126) (hts _ wm_11) (hts _ wm_12) rfl (by rw [hml]; exact hl.1) rfl dX8_init_1 (Nat.le_of_ble_eq_true rfl) (Nat.le_of_ble_eq_true rfl) ?_
  refine W.eq (g2 := F0 m 4 ls []) rfl ?_
  refine lv_aload_n hx hb dX8_init_4 rfl (lv_at hl 0 rfl) ?_
  refine lv_bipush (v := 40) hx hb dX8_init_5 (by decide) ?_
  refine c_newa_int (a0 := (40, .inl fun _ => 0)) hx hb (hts _ wm_53) hK hP hD hS hA (fun _ => rfl) (by decide) (by decide) (by decide) (Nat.le_of_ble_eq_true rfl) (Nat.le_of_ble_eq_true rfl) dX8_init_7 (fun q0 H hP hD hS => ?_)
  have hP : va_P D vwCl [(h0, .inr (8, [.null, .null, .null, .null, .null, .int 0, .int 0, .int 0, .int 0])), (q0, .inl (kd 0, 40, .inl fun _ => 0))] H := hP
  have hD : va_D A [(h0, .inr (8, [.null, .null, .null, .null, .null, .int 0, .int 0, .int 0, .int 0])), (q0, .inl (kd 0, 40, .inl fun _ => 0))] := hD
  refine W.widen (k := 1) (n := 40) (by omega) (by omega) ?_
  refine va_putF (D := D) (ci := 8) (v := .ref q0) (ty := tyX8 3) (C := RX8) (T := TX8) (N := 9) hx hb hts inlX8 tyX8 tyX8_ok nmX8 hown hK hP hD hS 0 rfl rfl 3 (by decide) (hts _ wm_127) (fun _ h9 => h9) rfl hin rfl (tyX8_ok 3 (by decide)) rfl rfl (Nat.le_of_ble_eq_true rfl) dX8_init_9 (fun H locs hP hD hS => ?_)
  have hP : va_P D vwCl [(h0, .inr (8, [.null, .null, .null, .ref q0, .null, .int 0, .int 0, .int 0, .int 0])), (q0, .inl (kd 0, 40, .inl fun _ => 0))] H := hP
  have hD : va_D A [(h0, .inr (8, [.null, .null, .null, .ref q0, .null, .int 0, .int 0, .int 0, .int 0])), (q0, .inl (kd 0, 40, .inl fun _ => 0))] := hD
  refine lv_aload_n hx hb dX8_init_12 rfl (lv_at hl 0 rfl) ?_
  refine lv_bipush (v := 40) hx hb dX8_init_13 (by decide) ?_
  refine c_newa_int (a0 := (40, .inl fun _ => 0)) hx hb (hts _ wm_53) hK hP hD hS hA (fun _ => rfl) (by decide) (by decide) (by decide) (Nat.le_of_ble_eq_true rfl) (Nat.le_of_ble_eq_true rfl) dX8_init_15 (fun q1 H hP hD hS => ?_)
  have hP : va_P D vwCl [(h0, .inr (8, [.null, .null, .null, .ref q0, .null, .int 0, .int 0, .int 0, .int 0])), (q0, .inl (kd 0, 40, .inl fun _ => 0)), (q1, .inl (kd 0, 40, .inl fun _ => 0))] H := hP
  have hD : va_D A [(h0, .inr (8, [.null, .null, .null, .ref q0, .null, .int 0, .int 0, .int 0, .int 0])), (q0, .inl (kd 0, 40, .inl fun _ => 0)), (q1, .inl (kd 0, 40, .inl fun _ => 0))] := hD
  refine W.widen (k := 2) (n := 80) (by omega) (by omega) ?_
  refine va_putF (D := D) (ci := 8) (v := .ref q1) (ty := tyX8 4) (C := RX8) (T := TX8) (N := 9) hx hb hts inlX8 tyX8 tyX8_ok nmX8 hown hK hP hD hS 0 rfl rfl 4 (by decide) (hts _ wm_128) (fun _ h9 => h9) rfl hin rfl (tyX8_ok 4 (by decide)) rfl rfl (Nat.le_of_ble_eq_true rfl) dX8_init_17 (fun H locs hP hD hS => ?_)
  have hP : va_P D vwCl [(h0, .inr (8, [.null, .null, .null, .ref q0, .ref q1, .int 0, .int 0, .int 0, .int 0])), (q0, .inl (kd 0, 40, .inl fun _ => 0)), (q1, .inl (kd 0, 40, .inl fun _ => 0))] H := hP
  have hD : va_D A [(h0, .inr (8, [.null, .null, .null, .ref q0, .ref q1, .int 0, .int 0, .int 0, .int 0])), (q0, .inl (kd 0, 40, .inl fun _ => 0)), (q1, .inl (kd 0, 40, .inl fun _ => 0))] := hD
  refine lv_aload_n hx hb dX8_init_20 rfl (lv_at hl 0 rfl) ?_
  refine lv_aload_n hx hb dX8_init_21 rfl (lv_at hl 1 rfl) ?_
  refine va_putF (D := D) (ci := 8) (v := .ref a1) (ty := tyX8 0) (C := RX8) (T := TX8) (N := 9) hx hb hts inlX8 tyX8 tyX8_ok nmX8 hown hK hP hD hS 0 rfl rfl 0 (by decide) (hts _ wm_129) (fun _ h9 => h9) rfl hin rfl (tyX8_ok 0 (by decide)) rfl rfl (Nat.le_of_ble_eq_true rfl) dX8_init_22 (fun H locs hP hD hS => ?_)
  have hP : va_P D vwCl [(h0, .inr (8, [.ref a1, .null, .null, .ref q0, .ref q1, .int 0, .int 0, .int 0, .int 0])), (q0, .inl (kd 0, 40, .inl fun _ => 0)), (q1, .inl (kd 0, 40, .inl fun _ => 0))] H := hP
  have hD : va_D A [(h0, .inr (8, [.ref a1, .null, .null, .ref q0, .ref q1, .int 0, .int 0, .int 0, .int 0])), (q0, .inl (kd 0, 40, .inl fun _ => 0)), (q1, .inl (kd 0, 40, .inl fun _ => 0))] := hD
  refine lv_aload_n hx hb dX8_init_25 rfl (lv_at hl 0 rfl) ?_
  refine lv_aload_n hx hb dX8_init_26 rfl (lv_at hl 2 rfl) ?_
  refine va_putF (D := D) (ci := 8) (v := .ref a2) (ty := tyX8 1) (C := RX8) (T := TX8) (N := 9) hx hb hts inlX8 tyX8 tyX8_ok nmX8 hown hK hP hD hS 0 rfl rfl 1 (by decide) (hts _ wm_130) (fun _ h9 => h9) rfl hin rfl (tyX8_ok 1 (by decide)) rfl rfl (Nat.le_of_ble_eq_true rfl) dX8_init_27 (fun H locs hP hD hS => ?_)
  have hP : va_P D vwCl [(h0, .inr (8, [.ref a1, .ref a2, .null, .ref q0, .ref q1, .int 0, .int 0, .int 0, .int 0])), (q0, .inl (kd 0, 40, .inl fun _ => 0)), (q1, .inl (kd 0, 40, .inl fun _ => 0))] H := hP
  have hD : va_D A [(h0, .inr (8, [.ref a1, .ref a2, .null, .ref q0, .ref q1, .int 0, .int 0, .int 0, .int 0])), (q0, .inl (kd 0, 40, .inl fun _ => 0)), (q1, .inl (kd 0, 40, .inl fun _ => 0))] := hD
  refine lv_aload_n hx hb dX8_init_30 rfl (lv_at hl 0 rfl) ?_
  refine lv_aload_n hx hb dX8_init_31 rfl (lv_at hl 3 rfl) ?_
  refine va_putF (D := D) (ci := 8) (v := .ref a3) (ty := tyX8 2) (C := RX8) (T := TX8) (N := 9) hx hb hts inlX8 tyX8 tyX8_ok nmX8 hown hK hP hD hS 0 rfl rfl 2 (by decide) (hts _ wm_131) (fun _ h9 => h9) rfl hin rfl (tyX8_ok 2 (by decide)) rfl rfl (Nat.le_of_ble_eq_true rfl) dX8_init_32 (fun H locs hP hD hS => ?_)
  have hP : va_P D vwCl [(h0, .inr (8, [.ref a1, .ref a2, .ref a3, .ref q0, .ref q1, .int 0, .int 0, .int 0, .int 0])), (q0, .inl (kd 0, 40, .inl fun _ => 0)), (q1, .inl (kd 0, 40, .inl fun _ => 0))] H := hP
  have hD : va_D A [(h0, .inr (8, [.ref a1, .ref a2, .ref a3, .ref q0, .ref q1, .int 0, .int 0, .int 0, .int 0])), (q0, .inl (kd 0, 40, .inl fun _ => 0)), (q1, .inl (kd 0, 40, .inl fun _ => 0))] := hD
  have hP9 := hP.sub (ws' := [(h0, .inr (8, [.ref a1, .ref a2, .ref a3, .ref q0, .ref q1, .int 0, .int 0, .int 0, .int 0])), (q0, .inl (kd 0, 40, .inl fun _ => 0)), (q1, .inl (kd 0, 40, .inl fun _ => 0))]) [0, 1, 2] rfl
  have hD9 := hD.sub (ws' := [(h0, .inr (8, [.ref a1, .ref a2, .ref a3, .ref q0, .ref q1, .int 0, .int 0, .int 0, .int 0])), (q0, .inl (kd 0, 40, .inl fun _ => 0)), (q1, .inl (kd 0, 40, .inl fun _ => 0))]) [0, 1, 2] (by decide) rfl
  exact W.vret hx hb hr (fun t ht hW => ⟨⟨(), rfl, trivial, q0, q1, by rw [ht]; exact hP9, va_K.moved hW.alike hK, hD9⟩, hS.F ht⟩) hS.2.2 dX8_init_35
set_option maxRecDepth 100000 in
set_option maxHeartbeats 40000000 in
theorem c_X6_init (l : Launch) (D : va_G) (kd : Nat → ClassId) (h0 a1 a2 : Nat) (sz : Nat) : Met l yX6_init (Cond.code yX6_init cX6_init 3 none :: wsL_law) ({ frames := 1, cells := 4, slots := 100, locals := 12 }) (va_Pc [.ref h0, .ref a1, .ref a2] (fun U => U.heap.size = sz ∧ va_P D vwCl [(h0, .inr (6, [.null, .null, .null, .null, .int 0, .null, .null]))] U.heap ∧ va_K D vwCl (g_tys kd) U ∧ va_D (fun _ => True) [(h0, .inr (6, [.null, .null, .null, .null, .int 0, .null, .null]))])) (va_Qv (fun _ : Unit => True) (fun _ t => ∃ q0 q1 q2 q3, va_P D vwCl [(h0, .inr (6, [.ref a1, .ref a2, .ref q0, .ref q1, .int 0, .ref q2, .ref q3])), (q0, .inl (kd 0, 10, .inl fun _ => 0)), (q1, .inl (kd 0, 10, .inl fun _ => 0)), (q2, .inl (kd 1, 40, .inl fun _ => 0)), (q3, .inl (kd 1, 40, .inl fun _ => 0))] t.heap ∧ va_K D vwCl (g_tys kd) t ∧ va_D (va_A [(h0, .inr (6, [.null, .null, .null, .null, .int 0, .null, .null]))] sz) [(h0, .inr (6, [.ref a1, .ref a2, .ref q0, .ref q1, .int 0, .ref q2, .ref q3])), (q0, .inl (kd 0, 10, .inl fun _ => 0)), (q1, .inl (kd 0, 10, .inl fun _ => 0)), (q2, .inl (kd 1, 40, .inl fun _ => 0)), (q3, .inl (kd 1, 40, .inl fun _ => 0))]) (va_A [(h0, .inr (6, [.null, .null, .null, .null, .int 0, .null, .null]))] sz)) 4 100 (va_A [(h0, .inr (6, [.null, .null, .null, .null, .int 0, .null, .null]))] sz) := by
  refine Met.ofW (cc := cX6_init) (maxL := 3) (ret := none) (by decide) rfl ?_
  intro p e s m args below meth c s₁ B hml hv
  obtain ⟨rfl, hsz, hP, hK, hD0⟩ := hv
  have hx := B.exec
  have hb := B.bytes
  have hr := B.returns
  have hts0 := atoms_spec (ws := Cond.code yX6_init cX6_init 3 none :: wsL_law) B.pre
  have hts : ∀ w ∈ wsL_law, w.before _ s = true := fun w hw => hts0 w (List.mem_cons_of_mem _ hw)
  have hown : s.vm.findClass RX6 = some m.cls := findClass_of_methodNamed B.named
  have hin : meth.name = "<init>" := (name_of_methodNamed B.named B.method).1
  subst hsz
  have hD := hD0.self (sz := s.heap.size)
  generalize hAe : va_A [(h0, .inr (6, [.null, .null, .null, .null, .int 0, .null, .null]))] s.heap.size = A at hD ⊢
  have hA : ∀ q : Nat, s.heap.size ≤ q → A q := fun q h => by rw [← hAe]; exact Or.inr h
  have hS : va_S A s.heap s.heap [] := va_S.rf
  have hl := lv_entry ([.ref h0, .ref a1, .ref a2]) (n := 3) (Nat.le_of_ble_eq_true rfl)
  rw [lg_entry_eq]
  generalize (lg_sl ([.ref h0, .ref a1, .ref a2]) ++ List.replicate (3 - (lg_sl ([.ref h0, .ref a1, .ref a2])).length) Slot.unset).toArray = ls at hl ⊢
  have hl : lv_has ls 3 [(0, .ref h0), (1, .ref a1), (2, .ref a2)] := hl
  refine lv_aload_n hx hb dX6_init_0 rfl (lv_at hl 0 rfl) ?_
  refine W.objInit hx hb hown (hts _ wm_135) (hts _ wm_11) (hts _ wm_12) rfl (by rw [hml]; exact hl.1) rfl dX6_init_1 (Nat.le_of_ble_eq_true rfl) (Nat.le_of_ble_eq_true rfl) ?_
  refine W.eq (g2 := F0 m 4 ls []) rfl ?_
  refine lv_aload_n hx hb dX6_init_4 rfl (lv_at hl 0 rfl) ?_
  refine lv_bipush (v := 10) hx hb dX6_init_5 (by decide) ?_
  refine c_newa_int (a0 := (10, .inl fun _ => 0)) hx hb (hts _ wm_53) hK hP hD hS hA (fun _ => rfl) (by decide) (by decide) (by decide) (Nat.le_of_ble_eq_true rfl) (Nat.le_of_ble_eq_true rfl) dX6_init_7 (fun q0 H hP hD hS => ?_)
  have hP : va_P D vwCl [(h0, .inr (6, [.null, .null, .null, .null, .int 0, .null, .null])), (q0, .inl (kd 0, 10, .inl fun _ => 0))] H := hP
  have hD : va_D A [(h0, .inr (6, [.null, .null, .null, .null, .int 0, .null, .null])), (q0, .inl (kd 0, 10, .inl fun _ => 0))] := hD
  refine W.widen (k := 1) (n := 10) (by omega) (by omega) ?_
  refine va_putF (D := D) (ci := 6) (v := .ref q0) (ty := tyX6 2) (C := RX6) (T := TX6) (N := 7) hx hb hts inlX6 tyX6 tyX6_ok nmX6 hown hK hP hD hS 0 rfl rfl 2 (by decide) (hts _ wm_136) (fun _ h9 => h9) rfl hin rfl (tyX6_ok 2 (by decide)) rfl rfl (Nat.le_of_ble_eq_true rfl) dX6_init_9 (fun H locs hP hD hS => ?_)
  have hP : va_P D vwCl [(h0, .inr (6, [.null, .null, .ref q0, .null, .int 0, .null, .null])), (q0, .inl (kd 0, 10, .inl fun _ => 0))] H := hP
  have hD : va_D A [(h0, .inr (6, [.null, .null, .ref q0, .null, .int 0, .null, .null])), (q0, .inl (kd 0, 10, .inl fun _ => 0))] := hD
  refine lv_aload_n hx hb dX6_init_12 rfl (lv_at hl 0 rfl) ?_
  refine lv_bipush (v := 10) hx hb dX6_init_13 (by decide) ?_
  refine c_newa_int (a0 := (10, .inl fun _ => 0)) hx hb (hts _ wm_53) hK hP hD hS hA (fun _ => rfl) (by decide) (by decide) (by decide) (Nat.le_of_ble_eq_true rfl) (Nat.le_of_ble_eq_true rfl) dX6_init_15 (fun q1 H hP hD hS => ?_)
  have hP : va_P D vwCl [(h0, .inr (6, [.null, .null, .ref q0, .null, .int 0, .null, .null])), (q0, .inl (kd 0, 10, .inl fun _ => 0)), (q1, .inl (kd 0, 10, .inl fun _ => 0))] H := hP
  have hD : va_D A [(h0, .inr (6, [.null, .null, .ref q0, .null, .int 0, .null, .null])), (q0, .inl (kd 0, 10, .inl fun _ => 0)), (q1, .inl (kd 0, 10, .inl fun _ => 0))] := hD
  refine W.widen (k := 2) (n := 20) (by omega) (by omega) ?_
  refine va_putF (D := D) (ci := 6) (v := .ref q1) (ty := tyX6 3) (C := RX6) (T := TX6) (N := 7) hx hb hts inlX6 tyX6 tyX6_ok nmX6 hown hK hP hD hS 0 rfl rfl 3 (by decide) (hts _ wm_137) (fun _ h9 => h9) rfl hin rfl (tyX6_ok 3 (by decide)) rfl rfl (Nat.le_of_ble_eq_true rfl) dX6_init_17 (fun H locs hP hD hS => ?_)
  have hP : va_P D vwCl [(h0, .inr (6, [.null, .null, .ref q0, .ref q1, .int 0, .null, .null])), (q0, .inl (kd 0, 10, .inl fun _ => 0)), (q1, .inl (kd 0, 10, .inl fun _ => 0))] H := hP
  have hD : va_D A [(h0, .inr (6, [.null, .null, .ref q0, .ref q1, .int 0, .null, .null])), (q0, .inl (kd 0, 10, .inl fun _ => 0)), (q1, .inl (kd 0, 10, .inl fun _ => 0))] := hD
  refine lv_aload_n hx hb dX6_init_20 rfl (lv_at hl 0 rfl) ?_
  refine lv_bipush (v := 40) hx hb dX6_init_21 (by decide) ?_
  refine c_newa_boolean (a0 := (40, .inl fun _ => 0)) hx hb (hts _ wm_61) hK hP hD hS hA (fun _ => rfl) (by decide) (by decide) (by decide) (Nat.le_of_ble_eq_true rfl) (Nat.le_of_ble_eq_true rfl) dX6_init_23 (fun q2 H hP hD hS => ?_)
  have hP : va_P D vwCl [(h0, .inr (6, [.null, .null, .ref q0, .ref q1, .int 0, .null, .null])), (q0, .inl (kd 0, 10, .inl fun _ => 0)), (q1, .inl (kd 0, 10, .inl fun _ => 0)), (q2, .inl (kd 1, 40, .inl fun _ => 0))] H := hP
  have hD : va_D A [(h0, .inr (6, [.null, .null, .ref q0, .ref q1, .int 0, .null, .null])), (q0, .inl (kd 0, 10, .inl fun _ => 0)), (q1, .inl (kd 0, 10, .inl fun _ => 0)), (q2, .inl (kd 1, 40, .inl fun _ => 0))] := hD
  refine W.widen (k := 3) (n := 60) (by omega) (by omega) ?_
  refine va_putF (D := D) (ci := 6) (v := .ref q2) (ty := tyX6 5) (C := RX6) (T := TX6) (N := 7) hx hb hts inlX6 tyX6 tyX6_ok nmX6 hown hK hP hD hS 0 rfl rfl 5 (by decide) (hts _ wm_138) (fun _ h9 => h9) rfl hin rfl (tyX6_ok 5 (by decide)) rfl rfl (Nat.le_of_ble_eq_true rfl) dX6_init_25 (fun H locs hP hD hS => ?_)
  have hP : va_P D vwCl [(h0, .inr (6, [.null, .null, .ref q0, .ref q1, .int 0, .ref q2, .null])), (q0, .inl (kd 0, 10, .inl fun _ => 0)), (q1, .inl (kd 0, 10, .inl fun _ => 0)), (q2, .inl (kd 1, 40, .inl fun _ => 0))] H := hP
  have hD : va_D A [(h0, .inr (6, [.null, .null, .ref q0, .ref q1, .int 0, .ref q2, .null])), (q0, .inl (kd 0, 10, .inl fun _ => 0)), (q1, .inl (kd 0, 10, .inl fun _ => 0)), (q2, .inl (kd 1, 40, .inl fun _ => 0))] := hD
  refine lv_aload_n hx hb dX6_init_28 rfl (lv_at hl 0 rfl) ?_
  refine lv_bipush (v := 40) hx hb dX6_init_29 (by decide) ?_
  refine c_newa_boolean (a0 := (40, .inl fun _ => 0)) hx hb (hts _ wm_61) hK hP hD hS hA (fun _ => rfl) (by decide) (by decide) (by decide) (Nat.le_of_ble_eq_true rfl) (Nat.le_of_ble_eq_true rfl) dX6_init_31 (fun q3 H hP hD hS => ?_)
  have hP : va_P D vwCl [(h0, .inr (6, [.null, .null, .ref q0, .ref q1, .int 0, .ref q2, .null])), (q0, .inl (kd 0, 10, .inl fun _ => 0)), (q1, .inl (kd 0, 10, .inl fun _ => 0)), (q2, .inl (kd 1, 40, .inl fun _ => 0)), (q3, .inl (kd 1, 40, .inl fun _ => 0))] H := hP
  have hD : va_D A [(h0, .inr (6, [.null, .null, .ref q0, .ref q1, .int 0, .ref q2, .null])), (q0, .inl (kd 0, 10, .inl fun _ => 0)), (q1, .inl (kd 0, 10, .inl fun _ => 0)), (q2, .inl (kd 1, 40, .inl fun _ => 0)), (q3, .inl (kd 1, 40, .inl fun _ => 0))] := hD
  refine W.widen (k := 4) (n := 100) (by omega) (by omega) ?_
  refine va_putF (D := D) (ci := 6) (v := .ref q3) (ty := tyX6 6) (C := RX6) (T := TX6) (N := 7) hx hb hts inlX6 tyX6 tyX6_ok nmX6 hown hK hP hD hS 0 rfl rfl 6 (by decide) (hts _ wm_139) (fun _ h9 => h9) rfl hin rfl (tyX6_ok 6 (by decide)) rfl rfl (Nat.le_of_ble_eq_true rfl) dX6_init_33 (fun H locs hP hD hS => ?_)
  have hP : va_P D vwCl [(h0, .inr (6, [.null, .null, .ref q0, .ref q1, .int 0, .ref q2, .ref q3])), (q0, .inl (kd 0, 10, .inl fun _ => 0)), (q1, .inl (kd 0, 10, .inl fun _ => 0)), (q2, .inl (kd 1, 40, .inl fun _ => 0)), (q3, .inl (kd 1, 40, .inl fun _ => 0))] H := hP
  have hD : va_D A [(h0, .inr (6, [.null, .null, .ref q0, .ref q1, .int 0, .ref q2, .ref q3])), (q0, .inl (kd 0, 10, .inl fun _ => 0)), (q1, .inl (kd 0, 10, .inl fun _ => 0)), (q2, .inl (kd 1, 40, .inl fun _ => 0)), (q3, .inl (kd 1, 40, .inl fun _ => 0))] := hD
  refine lv_aload_n hx hb dX6_init_36 rfl (lv_at hl 0 rfl) ?_
  refine lv_aload_n hx hb dX6_init_37 rfl (lv_at hl 1 rfl) ?_
  refine va_putF (D := D) (ci := 6) (v := .ref a1) (ty := tyX6 0) (C := RX6) (T := TX6) (N := 7) hx hb hts inlX6 tyX6 tyX6_ok nmX6 hown hK hP hD hS 0 rfl rfl 0 (by decide) (hts _ wm_140) (fun _ h9 => h9) rfl hin rfl (tyX6_ok 0 (by decide)) rfl rfl (Nat.le_of_ble_eq_true rfl) dX6_init_38 (fun H locs hP hD hS => ?_)
  have hP : va_P D vwCl [(h0, .inr (6, [.ref a1, .null, .ref q0, .ref q1, .int 0, .ref q2, .ref q3])), (q0, .inl (kd 0, 10, .inl fun _ => 0)), (q1, .inl (kd 0, 10, .inl fun _ => 0)), (q2, .inl (kd 1, 40, .inl fun _ => 0)), (q3, .inl (kd 1, 40, .inl fun _ => 0))] H := hP
  have hD : va_D A [(h0, .inr (6, [.ref a1, .null, .ref q0, .ref q1, .int 0, .ref q2, .ref q3])), (q0, .inl (kd 0, 10, .inl fun _ => 0)), (q1, .inl (kd 0, 10, .inl fun _ => 0)), (q2, .inl (kd 1, 40, .inl fun _ => 0)), (q3, .inl (kd 1, 40, .inl fun _ => 0))] := hD
  refine lv_aload_n hx hb dX6_init_41 rfl (lv_at hl 0 rfl) ?_
  refine lv_aload_n hx hb dX6_init_42 rfl (lv_at hl 2 rfl) ?_
  refine va_putF (D := D) (ci := 6) (v := .ref a2) (ty := tyX6 1) (C := RX6) (T := TX6) (N := 7) hx hb hts inlX6 tyX6 tyX6_ok nmX6 hown hK hP hD hS 0 rfl rfl 1 (by decide) (hts _ wm_141) (fun _ h9 => h9) rfl hin rfl (tyX6_ok 1 (by decide)) rfl rfl (Nat.le_of_ble_eq_true rfl) dX6_init_43 (fun H locs hP hD hS => ?_)
  have hP : va_P D vwCl [(h0, .inr (6, [.ref a1, .ref a2, .ref q0, .ref q1, .int 0, .ref q2, .ref q3])), (q0, .inl (kd 0, 10, .inl fun _ => 0)), (q1, .inl (kd 0, 10, .inl fun _ => 0)), (q2, .inl (kd 1, 40, .inl fun _ => 0)), (q3, .inl (kd 1, 40, .inl fun _ => 0))] H := hP
  have hD : va_D A [(h0, .inr (6, [.ref a1, .ref a2, .ref q0, .ref q1, .int 0, .ref q2, .ref q3])), (q0, .inl (kd 0, 10, .inl fun _ => 0)), (q1, .inl (kd 0, 10, .inl fun _ => 0)), (q2, .inl (kd 1, 40, .inl fun _ => 0)), (q3, .inl (kd 1, 40, .inl fun _ => 0))] := hD
  have hP9 := hP.sub (ws' := [(h0, .inr (6, [.ref a1, .ref a2, .ref q0, .ref q1, .int 0, .ref q2, .ref q3])), (q0, .inl (kd 0, 10, .inl fun _ => 0)), (q1, .inl (kd 0, 10, .inl fun _ => 0)), (q2, .inl (kd 1, 40, .inl fun _ => 0)), (q3, .inl (kd 1, 40, .inl fun _ => 0))]) [0, 1, 2, 3, 4] rfl
  have hD9 := hD.sub (ws' := [(h0, .inr (6, [.ref a1, .ref a2, .ref q0, .ref q1, .int 0, .ref q2, .ref q3])), (q0, .inl (kd 0, 10, .inl fun _ => 0)), (q1, .inl (kd 0, 10, .inl fun _ => 0)), (q2, .inl (kd 1, 40, .inl fun _ => 0)), (q3, .inl (kd 1, 40, .inl fun _ => 0))]) [0, 1, 2, 3, 4] (by decide) rfl
  exact W.vret hx hb hr (fun t ht hW => ⟨⟨(), rfl, trivial, q0, q1, q2, q3, by rw [ht]; exact hP9, va_K.moved hW.alike hK, hD9⟩, hS.F ht⟩) hS.2.2 dX6_init_46
set_option maxRecDepth 100000 in
set_option maxHeartbeats 40000000 in
theorem c_X0_init (l : Launch) (D : va_G) (kd : Nat → ClassId) (h0 a1 : Nat) (sz : Nat) : Met l yX0_init (Cond.code yX0_init cX0_init 2 none :: wsL_law) ({ frames := 1, cells := 2, slots := 60, locals := 12 }) (va_Pc [.ref h0, .ref a1] (fun U => U.heap.size = sz ∧ va_P D vwCl [(h0, .inr (0, [.null, .null, .null, .int 0]))] U.heap ∧ va_K D vwCl (g_tys kd) U ∧ va_D (fun _ => True) [(h0, .inr (0, [.null, .null, .null, .int 0]))])) (va_Qv (fun _ : Unit => True) (fun _ t => ∃ q0 q1, va_P D vwCl [(h0, .inr (0, [.ref a1, .ref q0, .ref q1, .int 0])), (q0, .inl (kd 0, 30, .inl fun _ => 0)), (q1, .inl (kd 0, 30, .inl fun _ => 0))] t.heap ∧ va_K D vwCl (g_tys kd) t ∧ va_D (va_A [(h0, .inr (0, [.null, .null, .null, .int 0]))] sz) [(h0, .inr (0, [.ref a1, .ref q0, .ref q1, .int 0])), (q0, .inl (kd 0, 30, .inl fun _ => 0)), (q1, .inl (kd 0, 30, .inl fun _ => 0))]) (va_A [(h0, .inr (0, [.null, .null, .null, .int 0]))] sz)) 2 60 (va_A [(h0, .inr (0, [.null, .null, .null, .int 0]))] sz) := by
  refine Met.ofW (cc := cX0_init) (maxL := 2) (ret := none) (by decide) rfl ?_
  intro p e s m args below meth c s₁ B hml hv
  obtain ⟨rfl, hsz, hP, hK, hD0⟩ := hv
  have hx := B.exec
  have hb := B.bytes
  have hr := B.returns
  have hts0 := atoms_spec (ws := Cond.code yX0_init cX0_init 2 none :: wsL_law) B.pre
  have hts : ∀ w ∈ wsL_law, w.before _ s = true := fun w hw => hts0 w (List.mem_cons_of_mem _ hw)
  have hown : s.vm.findClass RX0 = some m.cls := findClass_of_methodNamed B.named
  have hin : meth.name = "<init>" := (name_of_methodNamed B.named B.method).1
  subst hsz
  have hD := hD0.self (sz := s.heap.size)
  generalize hAe : va_A [(h0, .inr (0, [.null, .null, .null, .int 0]))] s.heap.size = A at hD ⊢
  have hA : ∀ q : Nat, s.heap.size ≤ q → A q := fun q h => by rw [← hAe]; exact Or.inr h
  have hS : va_S A s.heap s.heap [] := va_S.rf
  have hl := lv_entry ([.ref h0, .ref a1]) (n := 2) (Nat.le_of_ble_eq_true rfl)
  rw [lg_entry_eq]
  generalize (lg_sl ([.ref h0, .ref a1]) ++ List.replicate (2 - (lg_sl ([.ref h0, .ref a1])).length) Slot.unset).toArray = ls at hl ⊢
  have hl : lv_has ls 2 [(0, .ref h0), (1, .ref a1)] := hl
  refine lv_aload_n hx hb dX0_init_0 rfl (lv_at hl 0 rfl) ?_
  refine W.objInit hx hb hown (hts _ wm_145) (hts _ wm_11) (hts _ wm_12) rfl (by rw [hml]; exact hl.1) rfl dX0_init_1 (Nat.le_of_ble_eq_true rfl) (Nat.le_of_ble_eq_true rfl) ?_
  refine W.eq (g2 := F0 m 4 ls []) rfl ?_
  refine lv_aload_n hx hb dX0_init_4 rfl (lv_at hl 0 rfl) ?_
  refine lv_bipush (v := 30) hx hb dX0_init_5 (by decide) ?_
  refine c_newa_int (a0 := (30, .inl fun _ => 0)) hx hb (hts _ wm_53) hK hP hD hS hA (fun _ => rfl) (by decide) (by decide) (by decide) (Nat.le_of_ble_eq_true rfl) (Nat.le_of_ble_eq_true rfl) dX0_init_7 (fun q0 H hP hD hS => ?_)
  have hP : va_P D vwCl [(h0, .inr (0, [.null, .null, .null, .int 0])), (q0, .inl (kd 0, 30, .inl fun _ => 0))] H := hP
  have hD : va_D A [(h0, .inr (0, [.null, .null, .null, .int 0])), (q0, .inl (kd 0, 30, .inl fun _ => 0))] := hD
  refine W.widen (k := 1) (n := 30) (by omega) (by omega) ?_
  refine va_putF (D := D) (ci := 0) (v := .ref q0) (ty := tyX0 1) (C := RX0) (T := TX0) (N := 4) hx hb hts inlX0 tyX0 tyX0_ok nmX0 hown hK hP hD hS 0 rfl rfl 1 (by decide) (hts _ wm_146) (fun _ h9 => h9) rfl hin rfl (tyX0_ok 1 (by decide)) rfl rfl (Nat.le_of_ble_eq_true rfl) dX0_init_9 (fun H locs hP hD hS => ?_)
  have hP : va_P D vwCl [(h0, .inr (0, [.null, .ref q0, .null, .int 0])), (q0, .inl (kd 0, 30, .inl fun _ => 0))] H := hP
  have hD : va_D A [(h0, .inr (0, [.null, .ref q0, .null, .int 0])), (q0, .inl (kd 0, 30, .inl fun _ => 0))] := hD
  refine lv_aload_n hx hb dX0_init_12 rfl (lv_at hl 0 rfl) ?_
  refine lv_bipush (v := 30) hx hb dX0_init_13 (by decide) ?_
  refine c_newa_int (a0 := (30, .inl fun _ => 0)) hx hb (hts _ wm_53) hK hP hD hS hA (fun _ => rfl) (by decide) (by decide) (by decide) (Nat.le_of_ble_eq_true rfl) (Nat.le_of_ble_eq_true rfl) dX0_init_15 (fun q1 H hP hD hS => ?_)
  have hP : va_P D vwCl [(h0, .inr (0, [.null, .ref q0, .null, .int 0])), (q0, .inl (kd 0, 30, .inl fun _ => 0)), (q1, .inl (kd 0, 30, .inl fun _ => 0))] H := hP
  have hD : va_D A [(h0, .inr (0, [.null, .ref q0, .null, .int 0])), (q0, .inl (kd 0, 30, .inl fun _ => 0)), (q1, .inl (kd 0, 30, .inl fun _ => 0))] := hD
  refine W.widen (k := 2) (n := 60) (by omega) (by omega) ?_
  refine va_putF (D := D) (ci := 0) (v := .ref q1) (ty := tyX0 2) (C := RX0) (T := TX0) (N := 4) hx hb hts inlX0 tyX0 tyX0_ok nmX0 hown hK hP hD hS 0 rfl rfl 2 (by decide) (hts _ wm_147) (fun _ h9 => h9) rfl hin rfl (tyX0_ok 2 (by decide)) rfl rfl (Nat.le_of_ble_eq_true rfl) dX0_init_17 (fun H locs hP hD hS => ?_)
  have hP : va_P D vwCl [(h0, .inr (0, [.null, .ref q0, .ref q1, .int 0])), (q0, .inl (kd 0, 30, .inl fun _ => 0)), (q1, .inl (kd 0, 30, .inl fun _ => 0))] H := hP
  have hD : va_D A [(h0, .inr (0, [.null, .ref q0, .ref q1, .int 0])), (q0, .inl (kd 0, 30, .inl fun _ => 0)), (q1, .inl (kd 0, 30, .inl fun _ => 0))] := hD
  refine lv_aload_n hx hb dX0_init_20 rfl (lv_at hl 0 rfl) ?_
  refine lv_aload_n hx hb dX0_init_21 rfl (lv_at hl 1 rfl) ?_
  refine va_putF (D := D) (ci := 0) (v := .ref a1) (ty := tyX0 0) (C := RX0) (T := TX0) (N := 4) hx hb hts inlX0 tyX0 tyX0_ok nmX0 hown hK hP hD hS 0 rfl rfl 0 (by decide) (hts _ wm_148) (fun _ h9 => h9) rfl hin rfl (tyX0_ok 0 (by decide)) rfl rfl (Nat.le_of_ble_eq_true rfl) dX0_init_22 (fun H locs hP hD hS => ?_)
  have hP : va_P D vwCl [(h0, .inr (0, [.ref a1, .ref q0, .ref q1, .int 0])), (q0, .inl (kd 0, 30, .inl fun _ => 0)), (q1, .inl (kd 0, 30, .inl fun _ => 0))] H := hP
  have hD : va_D A [(h0, .inr (0, [.ref a1, .ref q0, .ref q1, .int 0])), (q0, .inl (kd 0, 30, .inl fun _ => 0)), (q1, .inl (kd 0, 30, .inl fun _ => 0))] := hD
  have hP9 := hP.sub (ws' := [(h0, .inr (0, [.ref a1, .ref q0, .ref q1, .int 0])), (q0, .inl (kd 0, 30, .inl fun _ => 0)), (q1, .inl (kd 0, 30, .inl fun _ => 0))]) [0, 1, 2] rfl
  have hD9 := hD.sub (ws' := [(h0, .inr (0, [.ref a1, .ref q0, .ref q1, .int 0])), (q0, .inl (kd 0, 30, .inl fun _ => 0)), (q1, .inl (kd 0, 30, .inl fun _ => 0))]) [0, 1, 2] (by decide) rfl
  exact W.vret hx hb hr (fun t ht hW => ⟨⟨(), rfl, trivial, q0, q1, by rw [ht]; exact hP9, va_K.moved hW.alike hK, hD9⟩, hS.F ht⟩) hS.2.2 dX0_init_25
