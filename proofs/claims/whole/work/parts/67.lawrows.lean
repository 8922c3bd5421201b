/-! The rows of the law's walk: two worlds -/
def lwA (s : State) : Nat → Prop := fun q => s.heap.size ≤ q
def lwK (p : Program) (s : State) (m : MethodId) (meth : Method) (c : Code) (b L : Nat) (xs : Nat → Int32) (D : va_G) (kd : Nat → ClassId) (adK adV adC adM : Nat → Nat) : Prop := p.tables.exec = Jvm.exec ∧ c.code = code ∧ meth.sig.returnType = ret ∧ c.maxLocals = 4 ∧ s.vm.findClass RL = some m.cls ∧ (∀ w ∈ wsL_law, w.before #[Value.ref b] s = true) ∧ va_X b L xs s s.heap ∧ b < s.heap.size ∧ meth.locks = false ∧ va_K D vwCl (g_tys kd) s ∧ g_Str adK adV (lwA s) s s.heap ∧ g_ap LC adC ∧ g_ap LM adM ∧ (∀ k, k < 49 → s.heap.size ≤ adC k) ∧ (∀ k, k < 23 → s.heap.size ≤ adM k) ∧ ∀ i j, i < 49 → j < 23 → adC i ≠ adM j
def lwY (p : Program) (l : Launch) (e : Env) (s : State) (m : MethodId) (below : List Frame) (meth : Method) (c : Code) (b : Nat) (D : va_G) (kd : Nat → ClassId) (adC adM : Nat → Nat) (pc : Nat) (ls : List (Nat × Value)) (st : List Value) (cs ms : gS) : Prop := ∀ (H : Heap) (locs : List Loc) (lsA : Array Slot), lv_has lsA 4 ls → va_P D vwCl (g_W LC kd adC cs) H → va_P D vwCl (g_W LM kd adM ms) H → va_S (lwA s) s.heap H locs → W p l e room_1 s m #[Value.ref b] below meth c H locs 72 3641 (lw_Z below #[Value.ref b] s) (F0 m pc lsA st)
theorem lw_after {R : Room} {args : Array Value} {Q : State → Prop} {p : Program} {l : Launch} {e : Env} {s : State} {m : MethodId} {below : List Frame} {meth : Method} {c : Code} {D : va_G} {kd : Nat → ClassId} {H : Heap} {locs : List Loc} {cells slots pc : Nat} {lsA : Array Slot} {st0 rest : List Value} {A A1 : Nat → Prop} {r1 : Option Value × gS} {a : Array Value} {Ly : gL} {ad : Nat → Nat}
    (hr : va_Run p l e R s m args below meth c H locs cells slots 0 0 (F0 m pc lsA st0) rest (g_Q Ly ad D kd A1 r1 a) A1) (hS : va_S A s.heap H locs) (hA1 : ∀ q, A1 q → A q)
    (kk : ∀ (H1 : Heap) (locs1 : List Loc), va_P D vwCl (g_W Ly kd ad r1.2) H1 → (∀ q, q < H.size → ¬ A1 q → H1[q]? = H[q]?) → va_S A s.heap H1 locs1 → W p l e R s m args below meth c H1 locs1 cells slots Q (F0 m (pc + 3) lsA (r1.1.toList ++ rest))) : W p l e R s m args below meth c H locs cells slots Q (F0 m pc lsA st0) := by
  intro T hT X
  obtain ⟨v, st₀, t, T', L', h0, X', hL, e1, e2, ⟨⟨hv, hB, hKt⟩, hz, hk⟩, st⟩ := hr T hT X
  cases hv
  rw [h0] at hz hk
  obtain ⟨t2, a1, b1⟩ := kk T'.heap (locs ++ L') (by rw [e1]; exact hB) (fun q h1 h2 => by rw [e1]; exact hk q h1 h2)
    ⟨Nat.le_trans hS.1 (by rw [e1]; exact hz), fun q h1 h2 => by rw [e1, hk q (Nat.lt_of_lt_of_le h1 hS.1) (fun z => h2 (hA1 q z))]; exact hS.2.1 q h1 h2, fun q hq => by
      rcases List.mem_append.mp hq with h | h
      · exact hS.2.2 q h
      · exact hA1 _ (hL q h)⟩ T' rfl X'
  exact ⟨t2, st t2 a1, b1⟩
section LAWROWS
variable {p : Program} {l : Launch} {e : Env} {s : State} {m : MethodId} {below : List Frame} {meth : Method} {c : Code} {b L : Nat} {xs : Nat → Int32} {D : va_G} {kd : Nat → ClassId} {adK adV adC adM : Nat → Nat} {pc q : Nat} {ls : List (Nat × Value)} {st : List Value} {cs ms : gS}
theorem y_iload_n (K : lwK p s m meth c b L xs D kd adK adV adC adM) {k4 : _root_.Fin 4} {x : Int32} (j : Nat) (hj : ls[j]? = some ((k4 : Nat), .int x)) (d : decode code pc = .ok (.iload_n k4, 1)) (hq : pc + 1 = q) (k : lwY p l e s m below meth c b D kd adC adM q ls (.int x :: st) cs ms) : lwY p l e s m below meth c b D kd adC adM pc ls st cs ms := by
  subst hq
  intro H locs lsA hl hP hM hS
  exact lv_iload_n K.1 K.2.1 d rfl (lv_at hl j hj) (k H locs lsA hl hP hM hS)
theorem y_aload_n (K : lwK p s m meth c b L xs D kd adK adV adC adM) {k4 : _root_.Fin 4} {x : Nat} (j : Nat) (hj : ls[j]? = some ((k4 : Nat), .ref x)) (d : decode code pc = .ok (.aload_n k4, 1)) (hq : pc + 1 = q) (k : lwY p l e s m below meth c b D kd adC adM q ls (.ref x :: st) cs ms) : lwY p l e s m below meth c b D kd adC adM pc ls st cs ms := by
  subst hq
  intro H locs lsA hl hP hM hS
  exact lv_aload_n K.1 K.2.1 d rfl (lv_at hl j hj) (k H locs lsA hl hP hM hS)
theorem y_iconst (K : lwK p s m meth c b L xs D kd adK adV adC adM) {n : Int} {v : Int32} (hv : Int32.ofInt n = v) (d : decode code pc = .ok (.iconst n, 1)) (hq : pc + 1 = q) (k : lwY p l e s m below meth c b D kd adC adM q ls (.int v :: st) cs ms) : lwY p l e s m below meth c b D kd adC adM pc ls st cs ms := by
  subst hq
  intro H locs lsA hl hP hM hS
  exact lv_iconst K.1 K.2.1 d hv (k H locs lsA hl hP hM hS)
theorem y_bipush (K : lwK p s m meth c b L xs D kd adK adV adC adM) {n : Int} {v : Int32} (hv : (Int8.ofInt n).toInt32 = v) (d : decode code pc = .ok (.bipush n, 2)) (hq : pc + 2 = q) (k : lwY p l e s m below meth c b D kd adC adM q ls (.int v :: st) cs ms) : lwY p l e s m below meth c b D kd adC adM pc ls st cs ms := by
  subst hq
  intro H locs lsA hl hP hM hS
  exact lv_bipush K.1 K.2.1 d hv (k H locs lsA hl hP hM hS)
theorem y_iadd (K : lwK p s m meth c b L xs D kd adK adV adC adM) {x y v : Int32} (hv : x + y = v) (d : decode code pc = .ok (.iadd, 1)) (hq : pc + 1 = q) (k : lwY p l e s m below meth c b D kd adC adM q ls (.int v :: st) cs ms) : lwY p l e s m below meth c b D kd adC adM pc ls (.int y :: .int x :: st) cs ms := by
  subst hq
  subst hv
  intro H locs lsA hl hP hM hS
  exact lv_iadd K.1 K.2.1 d (k H locs lsA hl hP hM hS)
theorem y_iand (K : lwK p s m meth c b L xs D kd adK adV adC adM) {x y : Int32} (d : decode code pc = .ok (.iand, 1)) (hq : pc + 1 = q) (k : lwY p l e s m below meth c b D kd adC adM q ls (.int (x &&& y) :: st) cs ms) : lwY p l e s m below meth c b D kd adC adM pc ls (.int y :: .int x :: st) cs ms := by
  subst hq
  intro H locs lsA hl hP hM hS
  exact lv_iand K.1 K.2.1 d (k H locs lsA hl hP hM hS)
theorem y_isub (K : lwK p s m meth c b L xs D kd adK adV adC adM) {x y : Int32} (d : decode code pc = .ok (.isub, 1)) (hq : pc + 1 = q) (k : lwY p l e s m below meth c b D kd adC adM q ls (.int (x - y) :: st) cs ms) : lwY p l e s m below meth c b D kd adC adM pc ls (.int y :: .int x :: st) cs ms := by
  subst hq
  intro H locs lsA hl hP hM hS
  exact lv_isub K.1 K.2.1 d (k H locs lsA hl hP hM hS)
theorem y_i2l (K : lwK p s m meth c b L xs D kd adK adV adC adM) {x : Int32} (d : decode code pc = .ok (.i2l, 1)) (hq : pc + 1 = q) (k : lwY p l e s m below meth c b D kd adC adM q ls (.long x.toInt64 :: st) cs ms) : lwY p l e s m below meth c b D kd adC adM pc ls (.int x :: st) cs ms := by
  subst hq
  intro H locs lsA hl hP hM hS
  exact lv_i2l K.1 K.2.1 d rfl (k H locs lsA hl hP hM hS)
theorem y_lshl (K : lwK p s m meth c b L xs D kd adK adV adC adM) {x : Int64} {y : Int32} (d : decode code pc = .ok (.lshl, 1)) (hq : pc + 1 = q) (k : lwY p l e s m below meth c b D kd adC adM q ls (.long (x <<< (y.toInt64 &&& 63)) :: st) cs ms) : lwY p l e s m below meth c b D kd adC adM pc ls (.int y :: .long x :: st) cs ms := by
  subst hq
  intro H locs lsA hl hP hM hS
  exact lv_lshl K.1 K.2.1 d rfl (k H locs lsA hl hP hM hS)
theorem y_land (K : lwK p s m meth c b L xs D kd adK adV adC adM) {x y : Int64} (d : decode code pc = .ok (.land, 1)) (hq : pc + 1 = q) (k : lwY p l e s m below meth c b D kd adC adM q ls (.long (x &&& y) :: st) cs ms) : lwY p l e s m below meth c b D kd adC adM pc ls (.long y :: .long x :: st) cs ms := by
  subst hq
  intro H locs lsA hl hP hM hS
  exact lv_land K.1 K.2.1 d (k H locs lsA hl hP hM hS)
theorem y_lor (K : lwK p s m meth c b L xs D kd adK adV adC adM) {x y : Int64} (d : decode code pc = .ok (.lor, 1)) (hq : pc + 1 = q) (k : lwY p l e s m below meth c b D kd adC adM q ls (.long (x ||| y) :: st) cs ms) : lwY p l e s m below meth c b D kd adC adM pc ls (.long y :: .long x :: st) cs ms := by
  subst hq
  intro H locs lsA hl hP hM hS
  exact lv_lor K.1 K.2.1 d (k H locs lsA hl hP hM hS)
theorem y_ldc2 (K : lwK p s m meth c b L xs D kd adK adV adC adM) {i : Nat} {v : Int64} (hw : Cond.constantLong RL i v ∈ wsL_law) (d : decode code pc = .ok (.ldc2_w i, 3)) (hq : pc + 3 = q) (k : lwY p l e s m below meth c b D kd adC adM q ls (.long v :: st) cs ms) : lwY p l e s m below meth c b D kd adC adM pc ls st cs ms := by
  subst hq
  intro H locs lsA hl hP hM hS
  exact lv_ldc2 K.1 K.2.1 K.2.2.2.2.1 (K.2.2.2.2.2.1 _ hw) d (k H locs lsA hl hP hM hS)
theorem y_hbA (K : lwK p s m meth c b L xs D kd adK adV adC adM) : ¬ lwA s b := Nat.not_le.mpr K.2.2.2.2.2.2.2.1
theorem y_slen (K : lwK p s m meth c b L xs D kd adK adV adC adM) (d : decode code pc = .ok (.arraylength, 1)) (hq : pc + 1 = q) (k : lwY p l e s m below meth c b D kd adC adM q ls (.int (Int32.ofNat L) :: st) cs ms) : lwY p l e s m below meth c b D kd adC adM pc ls (.ref b :: st) cs ms := by
  subst hq
  intro H locs lsA hl hP hM hS
  exact va_slen K.1 K.2.1 K.2.2.2.2.2.2.1 K.2.2.2.2.2.2.2.1 (y_hbA K) hS d (k H locs lsA hl hP hM hS)
theorem y_sld (K : lwK p s m meth c b L xs D kd adK adV adC adM) {j : Nat} (hj : j < L) (hL : L ≤ 2048) (d : decode code pc = .ok (.iaload, 1)) (hq : pc + 1 = q) (k : lwY p l e s m below meth c b D kd adC adM q ls (.int (xs j) :: st) cs ms) : lwY p l e s m below meth c b D kd adC adM pc ls (.int (nI j) :: .ref b :: st) cs ms := by
  subst hq
  intro H locs lsA hl hP hM hS
  refine va_sld K.1 K.2.1 K.2.2.2.2.2.2.1 K.2.2.2.2.2.2.2.1 (y_hbA K) hS (vp_in_nI hj (by omega)) d ?_
  rw [nI_clamp (by omega)]
  exact k H locs lsA hl hP hM hS
theorem y_goto (K : lwK p s m meth c b L xs D kd adK adV adC adM) {off : Int} {tgt : Nat} (d : decode code pc = .ok (.goto off, 3)) (ht : (pc : Int) + off = (tgt : Int)) (k : lwY p l e s m below meth c b D kd adC adM tgt ls st cs ms) : lwY p l e s m below meth c b D kd adC adM pc ls st cs ms := fun H locs lsA hl hP hM hS => lv_goto K.1 K.2.1 d ht (k H locs lsA hl hP hM hS)
theorem y_icmp_eq (K : lwK p s m meth c b L xs D kd adK adV adC adM) {x : Int32} {off : Int} {tgt : Nat} (d : decode code pc = .ok (.if_icmp .eq off, 3)) (ht : (pc : Int) + off = (tgt : Int)) (k : lwY p l e s m below meth c b D kd adC adM tgt ls st cs ms) : lwY p l e s m below meth c b D kd adC adM pc ls (.int x :: .int x :: st) cs ms := fun H locs lsA hl hP hM hS => lv_icmp_eq K.1 K.2.1 d ht (fun _ => k H locs lsA hl hP hM hS) (fun h => absurd rfl h)
theorem y_icmp_gt (K : lwK p s m meth c b L xs D kd adK adV adC adM) {x y : Int32} {off : Int} {tgt : Nat} (d : decode code pc = .ok (.if_icmp .gt off, 3)) (ht : (pc : Int) + off = (tgt : Int)) (hq : pc + 3 = q) (k1 : y < x → lwY p l e s m below meth c b D kd adC adM tgt ls st cs ms) (k2 : ¬ y < x → lwY p l e s m below meth c b D kd adC adM q ls st cs ms) : lwY p l e s m below meth c b D kd adC adM pc ls (.int y :: .int x :: st) cs ms := by
  subst hq
  intro H locs lsA hl hP hM hS
  exact lv_icmp_gt K.1 K.2.1 d ht (fun h => k1 h H locs lsA hl hP hM hS) (fun h => k2 h H locs lsA hl hP hM hS)
theorem y_tsIn (K : lwK p s m meth c b L xs D kd adK adV adC adM) {dflt lo hi : Int} {offs : Array Int} {len : Nat} {x : Int32} {off : Int} {tgt : Nat} (d : decode code pc = .ok (.tableswitch dflt lo hi offs, len)) (v : Int32) (h : x = v) (h1 : ¬ v.toInt < lo) (h2 : ¬ hi < v.toInt) (ho : offs[(v.toInt - lo).toNat]? = some off) (ht : (pc : Int) + off = (tgt : Int)) (k : lwY p l e s m below meth c b D kd adC adM tgt ls st cs ms) : lwY p l e s m below meth c b D kd adC adM pc ls (.int x :: st) cs ms := by
  subst h
  intro H locs lsA hl hP hM hS
  exact lv_tableIn K.1 K.2.1 d h1 h2 ho ht (k H locs lsA hl hP hM hS)
theorem y_tsOut (K : lwK p s m meth c b L xs D kd adK adV adC adM) {dflt lo hi : Int} {offs : Array Int} {len : Nat} {x : Int32} {tgt : Nat} (d : decode code pc = .ok (.tableswitch dflt lo hi offs, len)) (h : x.toInt < lo ∨ hi < x.toInt) (ht : (pc : Int) + dflt = (tgt : Int)) (k : lwY p l e s m below meth c b D kd adC adM tgt ls st cs ms) : lwY p l e s m below meth c b D kd adC adM pc ls (.int x :: st) cs ms := fun H locs lsA hl hP hM hS => lv_tableOut K.1 K.2.1 d h ht (k H locs lsA hl hP hM hS)
theorem y_iinc (K : lwK p s m meth c b L xs D kd adK adV adC adM) {n : Int} {i : Nat} {x v : Int32} (j : Nat) (ls' : List (Nat × Value)) (d : decode code pc = .ok (.iinc i n, 3)) (hq : pc + 3 = q) (hj : ls[j]? = some (i, .int x)) (hv : x + Int32.ofInt n = v) (hn : i < 4) (hl0 : (i, Value.int v) :: ls.filter (fun q => !(q.1 == i) && !(q.1 + 1 == i && q.2.category == 2)) = ls') (k : lwY p l e s m below meth c b D kd adC adM q ls' st cs ms) : lwY p l e s m below meth c b D kd adC adM pc ls st cs ms := by
  subst hq
  intro H locs lsA hl hP hM hS
  exact lv_iinc K.1 K.2.1 d hl hj hv hn hl0 (fun ls2 hl2 => k H locs ls2 hl2 hP hM hS)
theorem y_end (K : lwK p s m meth c b L xs D kd adK adV adC adM) (d : decode code pc = .ok (.ireturn, 1)) : lwY p l e s m below meth c b D kd adC adM pc ls [.int 1] cs ms := by
  intro H locs lsA hl hP hM hS
  refine va_forget (fun q hq => hS.2.2 q hq) ?_
  exact lw_ret K.1 K.2.1 K.2.2.1 K.2.2.2.2.2.2.2.2.1 d
theorem y_callC (K : lwK p s m meth c b L xs D kd adK adV adC adM) {y : MethodName} {cy : ByteArray} {nLy levy n idx : Nat} {st0 : List Value} {v1 : Int32} {s1 : gS} (As : List Value)
    (hcls : y.cls = RX9) (hL : g_L RL idx y cy nLy (some .int) n) (hLV : Cond.instanceMethod y ∈ wsL_law ∧ Cond.selects y.cls y y ∈ wsL_law) (hM1 : g_M (l, D, kd, adK, adV) LC adC y cy nLy (some .int) levy (.ref (adC 0) :: As) cs (some (some (.int v1), s1))) (hn : As.length = n) (hst : st0 = As.reverse ++ .ref (adC 0) :: st) (hcat : (st.map fun v => v.category).sum ≤ 8) (hlev : levy + 1 ≤ 13 ∧ 8 + (nLy + 11) + 40 * levy ≤ 490)
    (d : decode code pc = .ok (.invokevirtual idx, 3)) (hq : pc + 3 = q) (k : lwY p l e s m below meth c b D kd adC adM q ls (.int v1 :: st) s1 ms) : lwY p l e s m below meth c b D kd adC adM pc ls st0 cs ms := by
  subst hq
  subst hst
  obtain ⟨hx, hb, hr, hml, hown, hts, hX, hbl, hlk, hK, hStr, hapC, hapM, hgeC, hgeM, hdis⟩ := id K
  intro H locs lsA hl hP hM hS
  have hmono : ∀ q, g_A LC adC H.size q → lwA s q := fun q hq => hq.elim (fun ⟨k, hk, e⟩ => e ▸ hgeC k hk) (fun h => Nat.le_trans hS.1 h)
  refine lw_after (va_runV (As := As) (rest := st) ⟨hx, hb, hml, hown, hts⟩ (hM1 (some (.int v1), s1) rfl H.size) ⟨g_callB hL hts hlev.1 hlev.2, hts _ hLV.1, hts _ hLV.2⟩ ⟨g_blind, by rw [hcls]; exact va_recv (q0 := 0) (ci := 9) (q := (RX9, TX9, 10)) hK hP rfl (g_W_get (by decide)), fun U hU hW => ⟨rfl, by rw [hU], by rw [hU]; exact hP, va_K.moved hW.alike hK, g_Str_at hStr hS hmono hU hW⟩⟩ rfl hn hl.1 rfl (lv_room hcat) d ⟨Nat.le_refl _, Nat.le_refl _⟩) hS hmono (fun H1 locs1 hP1 hkeep hS1 => ?_)
  have hot : va_P D vwCl (g_W LM kd adM ms) H1 := hM.kept (fun j q hq => by
    obtain ⟨hj, rfl⟩ := g_W_get_inv hq
    refine hkeep _ (hM j _ hq).lt (fun z => ?_)
    rcases z with ⟨k, hk, z⟩ | z
    · exact hdis k j hk hj z.symm
    · exact Nat.lt_irrefl _ (Nat.lt_of_lt_of_le (hM j _ hq).lt z))
  exact k H1 locs1 lsA hl hP1 hot hS1
theorem y_callM (K : lwK p s m meth c b L xs D kd adK adV adC adM) {y : MethodName} {cy : ByteArray} {nLy levy n idx : Nat} {st0 : List Value} {v1 : Int32} {s1 : gS} (As : List Value)
    (hcls : y.cls = RX10) (hL : g_L RL idx y cy nLy (some .int) n) (hLV : Cond.instanceMethod y ∈ wsL_law ∧ Cond.selects y.cls y y ∈ wsL_law) (hM1 : g_M (l, D, kd, adK, adV) LM adM y cy nLy (some .int) levy (.ref (adM 0) :: As) ms (some (some (.int v1), s1))) (hn : As.length = n) (hst : st0 = As.reverse ++ .ref (adM 0) :: st) (hcat : (st.map fun v => v.category).sum ≤ 8) (hlev : levy + 1 ≤ 13 ∧ 8 + (nLy + 11) + 40 * levy ≤ 490)
    (d : decode code pc = .ok (.invokevirtual idx, 3)) (hq : pc + 3 = q) (k : lwY p l e s m below meth c b D kd adC adM q ls (.int v1 :: st) cs s1) : lwY p l e s m below meth c b D kd adC adM pc ls st0 cs ms := by
  subst hq
  subst hst
  obtain ⟨hx, hb, hr, hml, hown, hts, hX, hbl, hlk, hK, hStr, hapC, hapM, hgeC, hgeM, hdis⟩ := id K
  intro H locs lsA hl hP hM hS
  have hmono : ∀ q, g_A LM adM H.size q → lwA s q := fun q hq => hq.elim (fun ⟨k, hk, e⟩ => e ▸ hgeM k hk) (fun h => Nat.le_trans hS.1 h)
  refine lw_after (va_runV (As := As) (rest := st) ⟨hx, hb, hml, hown, hts⟩ (hM1 (some (.int v1), s1) rfl H.size) ⟨g_callB hL hts hlev.1 hlev.2, hts _ hLV.1, hts _ hLV.2⟩ ⟨g_blind, by rw [hcls]; exact va_recv (q0 := 0) (ci := 10) (q := (RX10, TX10, 46)) hK hM rfl (g_W_get (by decide)), fun U hU hW => ⟨rfl, by rw [hU], by rw [hU]; exact hM, va_K.moved hW.alike hK, g_Str_at hStr hS hmono hU hW⟩⟩ rfl hn hl.1 rfl (lv_room hcat) d ⟨Nat.le_refl _, Nat.le_refl _⟩) hS hmono (fun H1 locs1 hP1 hkeep hS1 => ?_)
  have hot : va_P D vwCl (g_W LC kd adC cs) H1 := hP.kept (fun j q hq => by
    obtain ⟨hj, rfl⟩ := g_W_get_inv hq
    refine hkeep _ (hP j _ hq).lt (fun z => ?_)
    rcases z with ⟨k, hk, z⟩ | z
    · exact hdis j k hj hk z
    · exact Nat.lt_irrefl _ (Nat.lt_of_lt_of_le (hP j _ hq).lt z))
  exact k H1 locs1 lsA hl hot hP1 hS1
end LAWROWS
