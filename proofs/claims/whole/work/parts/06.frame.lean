def g_sL : List Nat := [6, 5, 5, 5, 5, 5, 5, 3, 5]
def g_sB : List (List Int32) := [[109, 101, 97, 100, 111, 119], [103, 114, 97, 115, 115], [116, 105, 116, 104, 101], [116, 104, 105, 110, 103], [115, 104, 97, 100, 101], [119, 97, 116, 101, 114], [102, 108, 105, 101, 115], [99, 111, 119], [108, 105, 107, 101, 115]]
def g_sI : List Nat := [103, 116, 125, 129, 156, 158, 160, 134, 139]
def g_sT : List String := ["meadow", "grass", "tithe", "thing", "shade", "water", "flies", "cow", "likes"]
/-- the fields that one class reads of another (nest mates) -/
def g_fn : List (String × Nat × String × String × String) := [("CowLies", 84, "CowLies$Text", "length", "I"), ("CowLies$Reader", 41, "CowLies$Text", "kind", "I"), ("CowLies$Reader", 79, "CowLies$Text", "start", "I"), ("CowLies", 120, "CowLies$Land", "width", "I"), ("CowLies$Reader", 90, "CowLies$Land", "width", "I"), ("CowLies", 123, "CowLies$Land", "height", "I"), ("CowLies$Reader", 97, "CowLies$Land", "height", "I"), ("CowLies$Forecast", 33, "CowLies$Land", "cells", "I"), ("CowLies$Trials", 30, "CowLies$Land", "cells", "I"), ("CowLies$Reader", 54, "CowLies$Land", "cells", "I"), ("CowLies$Sightings", 58, "CowLies$Land", "cells", "I"), ("CowLies", 186, "CowLies$Land", "cells", "I"), ("CowLies$Pasture", 35, "CowLies$Land", "wakes", "I"), ("CowLies$Reader", 162, "CowLies$Land", "wakes", "I"), ("CowLies$Sightings", 52, "CowLies$Land", "hours", "I"), ("CowLies$Trials", 57, "CowLies$Land", "hours", "I"), ("CowLies$Pasture", 59, "CowLies$Land", "hours", "I"), ("CowLies", 129, "CowLies$Land", "hours", "I"), ("CowLies$Forecast", 81, "CowLies$Land", "hours", "I"), ("CowLies$Reader", 165, "CowLies$Land", "hours", "I"), ("CowLies$Pasture", 32, "CowLies$Land", "grass", "[I"), ("CowLies$Reader", 118, "CowLies$Land", "grass", "[I"), ("CowLies", 170, "CowLies$Land", "things", "[I"), ("CowLies$Reader", 153, "CowLies$Land", "things", "[I"), ("CowLies", 173, "CowLies$Land", "tithe", "[I"), ("CowLies$Reader", 127, "CowLies$Land", "tithe", "[I"), ("CowLies$Forecast", 78, "CowLies$Land", "wayCount", "[I"), ("CowLies", 100, "CowLies$Reader", "draft", "LCowLies$Land;"), ("CowLies", 117, "CowLies$Reader", "faultPlace", "I"), ("CowLies$Forecast", 39, "CowLies$Pasture", "grass", "[I"), ("CowLies$Trials", 74, "CowLies$Pasture", "grass", "[I"), ("CowLies", 163, "CowLies$Pasture", "grass", "[I"), ("CowLies", 167, "CowLies$Pasture", "atFirst", "[I"), ("CowLies$Sightings", 37, "CowLies$Pasture", "wakes", "I"), ("CowLies$Forecast", 63, "CowLies$Pasture", "wakes", "I"), ("CowLies", 132, "CowLies$Pasture", "wakes", "I"), ("CowLies", 139, "CowLies$Pasture", "noon", "I"), ("CowLies$Forecast", 52, "CowLies$Pasture", "lick", "I"), ("CowLies$Trials", 67, "CowLies$Pasture", "lick", "I"), ("CowLies", 142, "CowLies$Pasture", "lick", "I"), ("CowLies", 148, "CowLies$Pasture", "purse0", "I"), ("CowLies", 151, "CowLies$Pasture", "purse1", "I"), ("CowLies", 145, "CowLies$Pasture", "days", "I"), ("CowLies$Trials", 36, "CowLies$Pasture", "law", "I"), ("CowLies", 126, "CowLies$Pasture", "law", "I"), ("CowLies$Sightings", 68, "CowLies$Pasture", "law", "I"), ("CowLies", 261, "CowLies$Pasture", "seed", "I"), ("CowLies", 267, "CowLies$Image", "pasture", "LCowLies$Pasture;"), ("CowLies", 109, "CowLies$Image", "kept", "Z"), ("CowLies$Trials", 45, "CowLies$Forecast", "parts", "[J"), ("CowLies", 208, "CowLies$Forecast", "parts", "[J"), ("CowLies", 221, "CowLies$Trials", "bestMean", "I"), ("CowLies", 227, "CowLies$Trials", "restCell0", "I"), ("CowLies", 230, "CowLies$Trials", "restCell1", "I"), ("CowLies", 236, "CowLies$Trials", "leastGap", "I"), ("CowLies", 113, "CowLies$Sightings", "count", "I"), ("CowLies", 116, "CowLies$Book", "count", "I")]
/-! The frame: every method of the class (and of the reference) runs over ONE world of cells that never grows; its state is two tables of numbers; g_Z: the code at pc carries out the program o. -/
abbrev gS : Type := (Nat → Nat → Int32) × (Nat → Nat → Int64)
abbrev gC : Type := (Nat × Nat) ⊕ (Nat × List (Option Nat))
abbrev gL : Type := Nat × (Nat → gC)
abbrev gR : Type := Option (Option Value × gS)
def g_fv (ad : Nat → Nat) (I : Nat → Int32) : List (Option Nat) → Nat → List Value
  | [], _ => []
  | none :: r, j => .int (I j) :: g_fv ad I r (j + 1)
  | some q :: r, j => .ref (ad q) :: g_fv ad I r (j + 1)
def g_cell (kd : Nat → ClassId) (ad : Nat → Nat) (I : Nat → Int32) (J : Nat → Int64) : gC → va_E
  | .inl (t, n) => .inl (kd t, n, if t = 2 then .inr (.inl J) else .inl I)
  | .inr (c, fs) => .inr (c, g_fv ad I fs 0)
def g_W (L : gL) (kd : Nat → ClassId) (ad : Nat → Nat) (σ : gS) : va_W := (List.range L.1).map (fun k => (ad k, g_cell kd ad (σ.1 k) (σ.2 k) (L.2 k)))
theorem g_W_get {L : gL} {kd : Nat → ClassId} {ad : Nat → Nat} {σ : gS} {k : Nat} (h : k < L.1) : (g_W L kd ad σ)[k]? = some (ad k, g_cell kd ad (σ.1 k) (σ.2 k) (L.2 k)) := by simp [g_W, h]
theorem g_W_get_inv {L : gL} {kd : Nat → ClassId} {ad : Nat → Nat} {σ : gS} {k : Nat} {q : Nat × va_E} (h : (g_W L kd ad σ)[k]? = some q) : k < L.1 ∧ q = (ad k, g_cell kd ad (σ.1 k) (σ.2 k) (L.2 k)) := by
  have hk : k < L.1 := by
    rcases Nat.lt_or_ge k L.1 with h1 | h1
    · exact h1
    · rw [List.getElem?_eq_none (by simp [g_W]; exact h1)] at h; cases h
  rw [g_W_get hk] at h
  exact ⟨hk, (Option.some.inj h).symm⟩
def g_si (σ : gS) (k j : Nat) (v : Int32) : gS := (fun a => if a = k then upd (σ.1 a) j v else σ.1 a, σ.2)
def g_sl (σ : gS) (k j : Nat) (v : Int64) : gS := (σ.1, fun a => if a = k then vp_updL (σ.2 a) j v else σ.2 a)
theorem g_W_set {L : gL} {kd : Nat → ClassId} {ad : Nat → Nat} {σ σ' : gS} {k : Nat} {c : va_E} (h1 : g_cell kd ad (σ'.1 k) (σ'.2 k) (L.2 k) = c) (h2 : ∀ j, j ≠ k → σ'.1 j = σ.1 j ∧ σ'.2 j = σ.2 j) : (g_W L kd ad σ).set k (ad k, c) = g_W L kd ad σ' := by
  apply List.ext_getElem?
  intro i
  rw [List.getElem?_set]
  by_cases hi : k = i
  · subst hi
    rw [if_pos rfl]
    by_cases hk : k < L.1
    · rw [if_pos (by simp [g_W]; exact hk), g_W_get hk, h1]
    · rw [if_neg (by simp [g_W]; omega), List.getElem?_eq_none (by simp [g_W]; omega)]
  · rw [if_neg hi]
    have h3 := h2 i (fun q => hi q.symm)
    by_cases hk : i < L.1
    · rw [g_W_get hk, g_W_get hk, h3.1, h3.2]
    · rw [List.getElem?_eq_none (by simp [g_W]; omega), List.getElem?_eq_none (by simp [g_W]; omega)]
theorem g_fv_len (ad : Nat → Nat) (I : Nat → Int32) : ∀ (fs : List (Option Nat)) (j : Nat), (g_fv ad I fs j).length = fs.length
  | [], _ => rfl
  | none :: r, j => by simp [g_fv, g_fv_len ad I r (j + 1)]
  | some _ :: r, j => by simp [g_fv, g_fv_len ad I r (j + 1)]
theorem g_fv_none (ad : Nat → Nat) (I : Nat → Int32) : ∀ (fs : List (Option Nat)) (j k : Nat), fs[k]? = some none → (g_fv ad I fs j)[k]? = some (.int (I (j + k)))
  | [], _, k, h => by simp at h
  | none :: r, j, 0, _ => by simp [g_fv]
  | some _ :: r, j, 0, h => by simp at h
  | none :: r, j, k + 1, h => by
    have := g_fv_none ad I r (j + 1) k (by simpa using h)
    simpa [g_fv, Nat.add_assoc, Nat.add_comm 1 k] using this
  | some _ :: r, j, k + 1, h => by
    have := g_fv_none ad I r (j + 1) k (by simpa using h)
    simpa [g_fv, Nat.add_assoc, Nat.add_comm 1 k] using this
theorem g_fv_some (ad : Nat → Nat) (I : Nat → Int32) {q : Nat} : ∀ (fs : List (Option Nat)) (j k : Nat), fs[k]? = some (some q) → (g_fv ad I fs j)[k]? = some (.ref (ad q))
  | [], _, k, h => by simp at h
  | none :: r, j, 0, h => by simp at h
  | some _ :: r, j, 0, h => by simp at h; simp [g_fv, h]
  | none :: r, j, k + 1, h => by simpa [g_fv] using g_fv_some ad I r (j + 1) k (by simpa using h)
  | some _ :: r, j, k + 1, h => by simpa [g_fv] using g_fv_some ad I r (j + 1) k (by simpa using h)
theorem g_fv_congr (ad : Nat → Nat) {I I' : Nat → Int32} : ∀ (fs : List (Option Nat)) (j : Nat), (∀ i, j ≤ i → I' i = I i) → g_fv ad I' fs j = g_fv ad I fs j
  | [], _, _ => rfl
  | none :: r, j, h => by simp [g_fv, h j (Nat.le_refl j), g_fv_congr ad r (j + 1) (fun i hi => h i (by omega))]
  | some _ :: r, j, h => by simp [g_fv, g_fv_congr ad r (j + 1) (fun i hi => h i (by omega))]
theorem g_fv_set (ad : Nat → Nat) (I : Nat → Int32) (v : Int32) : ∀ (fs : List (Option Nat)) (j k : Nat), fs[k]? = some none → (g_fv ad I fs j).set k (.int v) = g_fv ad (upd I (j + k) v) fs j
  | [], _, k, h => by simp at h
  | none :: r, j, 0, _ => by
    simp only [g_fv, List.set_cons_zero, Nat.add_zero]
    rw [g_fv_congr ad r (j + 1) (I := I) (I' := upd I j v) (fun i hi => by simp [upd]; omega)]
    simp [upd]
  | some _ :: r, j, 0, h => by simp at h
  | none :: r, j, k + 1, h => by
    have := g_fv_set ad I v r (j + 1) k (by simpa using h)
    simp only [g_fv, List.set_cons_succ]
    rw [this, show j + 1 + k = j + (k + 1) by omega]
    simp [upd]
  | some _ :: r, j, k + 1, h => by
    have := g_fv_set ad I v r (j + 1) k (by simpa using h)
    simp only [g_fv, List.set_cons_succ]
    rw [this, show j + 1 + k = j + (k + 1) by omega]
def g_tys (kd : Nat → ClassId) : List (ClassId × FieldType) := [(kd 0, .int), (kd 1, .boolean), (kd 2, .long)]
def g_A (L : gL) (ad : Nat → Nat) (sz : Nat) : Nat → Prop := fun q => (∃ k, k < L.1 ∧ q = ad k) ∨ sz ≤ q
def g_ap (L : gL) (ad : Nat → Nat) : Prop := ∀ i j, i < L.1 → j < L.1 → ad i = ad j → i = j
theorem g_D {L : gL} {kd : Nat → ClassId} {ad : Nat → Nat} {A : Nat → Prop} (h : g_ap L ad) (hA : ∀ k, k < L.1 → A (ad k)) (σ : gS) : va_D A (g_W L kd ad σ) := by
  refine ⟨fun i j p q hp hq e => ?_, fun k q hq => ?_⟩
  · obtain ⟨h1, rfl⟩ := g_W_get_inv hp
    obtain ⟨h2, rfl⟩ := g_W_get_inv hq
    exact h i j h1 h2 e
  · obtain ⟨h1, rfl⟩ := g_W_get_inv hq
    exact hA k h1
/-- the String constants of the reader -/
abbrev g_sN : Nat := 9
def g_Str (adK adV : Nat → Nat) (A : Nat → Prop) (U : State) (H : Heap) : Prop := (vk_S g_sN g_sL g_sB adK adV A U H ∧ va_Z "java/lang/String" "COMPACT_STRINGS" "Z" (.int 1) A U H ∧ va_Zq "jdk/internal/util/Preconditions" "SIOOBE_FORMATTER" "Ljava/util/function/BiFunction;" A U H) ∧ (∀ i, i < g_sN → vk_R RX5 (g_sI.getD i 0) (g_sT.getD i "") (adK i) U) ∧ va_Nw (.methodLinkNest RX8 77 yX9_sown RX9) U ∧ ∀ q ∈ g_fn, va_Nw (.fieldLinkNest q.1 q.2.1 q.2.2.1 q.2.2.2.1 q.2.2.2.2 "CowLies") U
/-- where a method stands -/
abbrev gX : Type := Program × Env × Room × State × MethodId × Array Value × List Frame × Method × Code × (Nat → Prop)
/-- what is the same for all: launch, classes, array classes, the Strings' cells -/
abbrev gG : Type := Launch × va_G × (Nat → ClassId) × (Nat → Nat) × (Nat → Nat)
/-- a method's end: what it answers and its world -/
def g_B (L : gL) (ad : Nat → Nat) (D : va_G) (kd : Nat → ClassId) (σ : gS) (t : State) : Prop := va_P D vwCl (g_W L kd ad σ) t.heap ∧ va_K D vwCl (g_tys kd) t
def g_Q (L : gL) (ad : Nat → Nat) (D : va_G) (kd : Nat → ClassId) (A : Nat → Prop) (r : Option Value × gS) : Array Value → State → Outcome → State → Prop := fun _ st oc t => (oc = .returned r.1 ∧ g_B L ad D kd r.2 t) ∧ va_F A st t
def g_Z (G : gG) (X : gX) (L : gL) (ad : Nat → Nat) (nL pc : Nat) (ls : List (Nat × Value)) (st : List Value) (σ : gS) (o : gR) : Prop :=
  match G, X with
  | (l, D, kd, _, _), (p, e, R, s, m, args, below, meth, c, A) => ∀ r, o = some r → ∀ (H : Heap) (locs : List Loc) (lsA : Array Slot), lv_has lsA nL ls → va_P D vwCl (g_W L kd ad σ) H → va_S A s.heap H locs →
      W p l e R s m args below meth c H locs 0 0 (MQ below (g_Q L ad D kd A r) args s 0 0 A) (F0 m pc lsA st)
def g_K (G : gG) (X : gX) (L : gL) (ad : Nat → Nat) (cc : ByteArray) (nL : Nat) (own : String) (ret : Option FieldType) (lev : Nat) : Prop :=
  match G, X with
  | (_, D, kd, adK, adV), (p, _, R, s, m, args, _, meth, c, A) => p.tables.exec = Jvm.exec ∧ c.code = cc ∧ c.maxLocals = nL ∧ meth.sig.returnType = ret ∧ s.vm.findClass own = some m.cls ∧ (∀ w ∈ wsL_law, w.before args s = true) ∧ meth.locks = false ∧ va_K D vwCl (g_tys kd) s ∧ g_ap L ad ∧ A = g_A L ad s.heap.size ∧ R.cells = 0 ∧ R.slots = 0 ∧ lev ≤ R.frames ∧ 40 * lev ≤ R.locals ∧ g_Str adK adV A s s.heap

section GROWS
variable {G : gG} {X : gX} {L : gL} {ad : Nat → Nat} {cc : ByteArray} {nL lev : Nat} {own : String} {ret : Option FieldType} {pc q : Nat} {ls : List (Nat × Value)} {st : List Value} {σ : gS} {o o1 o2 : gR}
theorem gk_D {A : Nat → Prop} {sz : Nat} {kd : Nat → ClassId} (h : g_ap L ad) (hA : A = g_A L ad sz) (σ : gS) : va_D A (g_W L kd ad σ) := g_D h (fun k hk => by rw [hA]; exact Or.inl ⟨k, hk, rfl⟩) σ
theorem z_iconst (C : g_K G X L ad cc nL own ret lev) {n : Int} {v : Int32} (d : decode cc pc = .ok (.iconst n, 1)) (hq : pc + 1 = q) (hv : Int32.ofInt n = v) (k : g_Z G X L ad nL q ls (.int v :: st) σ o) : g_Z G X L ad nL pc ls (st) σ o := by
  subst hq
  obtain ⟨l, D, kd, adK, adV⟩ := G
  obtain ⟨p, e, R, s, m, args, below, meth, c, A⟩ := X
  intro r hr H locs lsA hl hP hS
  exact lv_iconst C.1 C.2.1 d hv (k r hr H locs lsA hl hP hS)
theorem z_bipush (C : g_K G X L ad cc nL own ret lev) {n : Int} {v : Int32} (d : decode cc pc = .ok (.bipush n, 2)) (hq : pc + 2 = q) (hv : (Int8.ofInt n).toInt32 = v) (k : g_Z G X L ad nL q ls (.int v :: st) σ o) : g_Z G X L ad nL pc ls (st) σ o := by
  subst hq
  obtain ⟨l, D, kd, adK, adV⟩ := G
  obtain ⟨p, e, R, s, m, args, below, meth, c, A⟩ := X
  intro r hr H locs lsA hl hP hS
  exact lv_bipush C.1 C.2.1 d hv (k r hr H locs lsA hl hP hS)
theorem z_sipush (C : g_K G X L ad cc nL own ret lev) {n : Int} {v : Int32} (d : decode cc pc = .ok (.sipush n, 3)) (hq : pc + 3 = q) (hv : (Int16.ofInt n).toInt32 = v) (k : g_Z G X L ad nL q ls (.int v :: st) σ o) : g_Z G X L ad nL pc ls (st) σ o := by
  subst hq
  obtain ⟨l, D, kd, adK, adV⟩ := G
  obtain ⟨p, e, R, s, m, args, below, meth, c, A⟩ := X
  intro r hr H locs lsA hl hP hS
  exact lv_sipush C.1 C.2.1 d hv (k r hr H locs lsA hl hP hS)
theorem z_lconst (C : g_K G X L ad cc nL own ret lev) {n : Fin 2} {v : Int64} (d : decode cc pc = .ok (.lconst n, 1)) (hq : pc + 1 = q) (hv : Int64.ofNat (n : Nat) = v) (k : g_Z G X L ad nL q ls (.long v :: st) σ o) : g_Z G X L ad nL pc ls (st) σ o := by
  subst hq
  obtain ⟨l, D, kd, adK, adV⟩ := G
  obtain ⟨p, e, R, s, m, args, below, meth, c, A⟩ := X
  intro r hr H locs lsA hl hP hS
  exact lv_lconst C.1 C.2.1 d hv (k r hr H locs lsA hl hP hS)
theorem z_iload_n (C : g_K G X L ad cc nL own ret lev) {k4 : Fin 4} {x : Int32} (j : Nat) (d : decode cc pc = .ok (.iload_n k4, 1)) (hq : pc + 1 = q) (hj : ls[j]? = some ((k4 : Nat), .int x)) (k : g_Z G X L ad nL q ls (.int x :: st) σ o) : g_Z G X L ad nL pc ls (st) σ o := by
  subst hq
  obtain ⟨l, D, kd, adK, adV⟩ := G
  obtain ⟨p, e, R, s, m, args, below, meth, c, A⟩ := X
  intro r hr H locs lsA hl hP hS
  exact lv_iload_n C.1 C.2.1 d rfl (lv_at hl j hj) (k r hr H locs lsA hl hP hS)
theorem z_iload (C : g_K G X L ad cc nL own ret lev) {i : Nat} {x : Int32} (j : Nat) (d : decode cc pc = .ok (.iload i, 2)) (hq : pc + 2 = q) (hj : ls[j]? = some (i, .int x)) (k : g_Z G X L ad nL q ls (.int x :: st) σ o) : g_Z G X L ad nL pc ls (st) σ o := by
  subst hq
  obtain ⟨l, D, kd, adK, adV⟩ := G
  obtain ⟨p, e, R, s, m, args, below, meth, c, A⟩ := X
  intro r hr H locs lsA hl hP hS
  exact lv_iload C.1 C.2.1 d (lv_at hl j hj) (k r hr H locs lsA hl hP hS)
theorem z_lload_n (C : g_K G X L ad cc nL own ret lev) {k4 : Fin 4} {x : Int64} (j : Nat) (d : decode cc pc = .ok (.lload_n k4, 1)) (hq : pc + 1 = q) (hj : ls[j]? = some ((k4 : Nat), .long x)) (k : g_Z G X L ad nL q ls (.long x :: st) σ o) : g_Z G X L ad nL pc ls (st) σ o := by
  subst hq
  obtain ⟨l, D, kd, adK, adV⟩ := G
  obtain ⟨p, e, R, s, m, args, below, meth, c, A⟩ := X
  intro r hr H locs lsA hl hP hS
  exact lv_lload_n C.1 C.2.1 d rfl (lv_at hl j hj) (k r hr H locs lsA hl hP hS)
theorem z_lload (C : g_K G X L ad cc nL own ret lev) {i : Nat} {x : Int64} (j : Nat) (d : decode cc pc = .ok (.lload i, 2)) (hq : pc + 2 = q) (hj : ls[j]? = some (i, .long x)) (k : g_Z G X L ad nL q ls (.long x :: st) σ o) : g_Z G X L ad nL pc ls (st) σ o := by
  subst hq
  obtain ⟨l, D, kd, adK, adV⟩ := G
  obtain ⟨p, e, R, s, m, args, below, meth, c, A⟩ := X
  intro r hr H locs lsA hl hP hS
  exact lv_lload C.1 C.2.1 d (lv_at hl j hj) (k r hr H locs lsA hl hP hS)
theorem z_aload_n (C : g_K G X L ad cc nL own ret lev) {k4 : Fin 4} {x : Nat} (j : Nat) (d : decode cc pc = .ok (.aload_n k4, 1)) (hq : pc + 1 = q) (hj : ls[j]? = some ((k4 : Nat), .ref x)) (k : g_Z G X L ad nL q ls (.ref x :: st) σ o) : g_Z G X L ad nL pc ls (st) σ o := by
  subst hq
  obtain ⟨l, D, kd, adK, adV⟩ := G
  obtain ⟨p, e, R, s, m, args, below, meth, c, A⟩ := X
  intro r hr H locs lsA hl hP hS
  exact lv_aload_n C.1 C.2.1 d rfl (lv_at hl j hj) (k r hr H locs lsA hl hP hS)
theorem z_aload (C : g_K G X L ad cc nL own ret lev) {i : Nat} {x : Nat} (j : Nat) (d : decode cc pc = .ok (.aload i, 2)) (hq : pc + 2 = q) (hj : ls[j]? = some (i, .ref x)) (k : g_Z G X L ad nL q ls (.ref x :: st) σ o) : g_Z G X L ad nL pc ls (st) σ o := by
  subst hq
  obtain ⟨l, D, kd, adK, adV⟩ := G
  obtain ⟨p, e, R, s, m, args, below, meth, c, A⟩ := X
  intro r hr H locs lsA hl hP hS
  exact lv_aload C.1 C.2.1 d (lv_at hl j hj) (k r hr H locs lsA hl hP hS)
theorem z_istore_n (C : g_K G X L ad cc nL own ret lev) {k4 : Fin 4} {i : Nat} {x : Int32} (ls' : List (Nat × Value)) (d : decode cc pc = .ok (.istore_n k4, 1)) (hq : pc + 1 = q) (hi : (k4 : Nat) = i) (hn : i < nL) (hl0 : (i, Value.int x) :: ls.filter (fun q => !(q.1 == i) && !(q.1 + 1 == i && q.2.category == 2)) = ls') (k : g_Z G X L ad nL q ls' st σ o) : g_Z G X L ad nL pc ls (.int x :: st) σ o := by
  subst hq
  obtain ⟨l, D, kd, adK, adV⟩ := G
  obtain ⟨p, e, R, s, m, args, below, meth, c, A⟩ := X
  intro r hr H locs lsA hl hP hS
  exact lv_istore_n C.1 C.2.1 d hi hl hn hl0 (fun ls2 hl2 => k r hr H locs ls2 hl2 hP hS)
theorem z_istore (C : g_K G X L ad cc nL own ret lev)  {i : Nat} {x : Int32} (ls' : List (Nat × Value)) (d : decode cc pc = .ok (.istore i, 2)) (hq : pc + 2 = q) (hn : i < nL) (hl0 : (i, Value.int x) :: ls.filter (fun q => !(q.1 == i) && !(q.1 + 1 == i && q.2.category == 2)) = ls') (k : g_Z G X L ad nL q ls' st σ o) : g_Z G X L ad nL pc ls (.int x :: st) σ o := by
  subst hq
  obtain ⟨l, D, kd, adK, adV⟩ := G
  obtain ⟨p, e, R, s, m, args, below, meth, c, A⟩ := X
  intro r hr H locs lsA hl hP hS
  exact lv_istore C.1 C.2.1 d hl hn hl0 (fun ls2 hl2 => k r hr H locs ls2 hl2 hP hS)
theorem z_astore_n (C : g_K G X L ad cc nL own ret lev) {k4 : Fin 4} {i : Nat} {x : Nat} (ls' : List (Nat × Value)) (d : decode cc pc = .ok (.astore_n k4, 1)) (hq : pc + 1 = q) (hi : (k4 : Nat) = i) (hn : i < nL) (hl0 : (i, Value.ref x) :: ls.filter (fun q => !(q.1 == i) && !(q.1 + 1 == i && q.2.category == 2)) = ls') (k : g_Z G X L ad nL q ls' st σ o) : g_Z G X L ad nL pc ls (.ref x :: st) σ o := by
  subst hq
  obtain ⟨l, D, kd, adK, adV⟩ := G
  obtain ⟨p, e, R, s, m, args, below, meth, c, A⟩ := X
  intro r hr H locs lsA hl hP hS
  exact lv_astore_n C.1 C.2.1 d hi hl hn hl0 (fun ls2 hl2 => k r hr H locs ls2 hl2 hP hS)
theorem z_lstore_n (C : g_K G X L ad cc nL own ret lev) {k4 : Fin 4} {i : Nat} {x : Int64} (ls' : List (Nat × Value)) (d : decode cc pc = .ok (.lstore_n k4, 1)) (hq : pc + 1 = q) (hi : (k4 : Nat) = i) (hn : i + 1 < nL) (hl0 : (i, Value.long x) :: ls.filter (fun q => !(q.1 == i) && (!(q.1 == i + 1) && !(q.1 + 1 == i && q.2.category == 2))) = ls') (k : g_Z G X L ad nL q ls' st σ o) : g_Z G X L ad nL pc ls (.long x :: st) σ o := by
  subst hq
  obtain ⟨l, D, kd, adK, adV⟩ := G
  obtain ⟨p, e, R, s, m, args, below, meth, c, A⟩ := X
  intro r hr H locs lsA hl hP hS
  exact lv_lstore_n C.1 C.2.1 d hi hl hn hl0 (fun ls2 hl2 => k r hr H locs ls2 hl2 hP hS)
theorem z_lstore (C : g_K G X L ad cc nL own ret lev)  {i : Nat} {x : Int64} (ls' : List (Nat × Value)) (d : decode cc pc = .ok (.lstore i, 2)) (hq : pc + 2 = q) (hn : i + 1 < nL) (hl0 : (i, Value.long x) :: ls.filter (fun q => !(q.1 == i) && (!(q.1 == i + 1) && !(q.1 + 1 == i && q.2.category == 2))) = ls') (k : g_Z G X L ad nL q ls' st σ o) : g_Z G X L ad nL pc ls (.long x :: st) σ o := by
  subst hq
  obtain ⟨l, D, kd, adK, adV⟩ := G
  obtain ⟨p, e, R, s, m, args, below, meth, c, A⟩ := X
  intro r hr H locs lsA hl hP hS
  exact lv_lstore C.1 C.2.1 d hl hn hl0 (fun ls2 hl2 => k r hr H locs ls2 hl2 hP hS)
theorem z_iinc (C : g_K G X L ad cc nL own ret lev) {n : Int} {i : Nat} {x v : Int32} (j : Nat) (ls' : List (Nat × Value)) (d : decode cc pc = .ok (.iinc i n, 3)) (hq : pc + 3 = q) (hj : ls[j]? = some (i, .int x)) (hv : x + Int32.ofInt n = v) (hn : i < nL) (hl0 : (i, Value.int v) :: ls.filter (fun q => !(q.1 == i) && !(q.1 + 1 == i && q.2.category == 2)) = ls') (k : g_Z G X L ad nL q ls' st σ o) : g_Z G X L ad nL pc ls st σ o := by
  subst hq
  obtain ⟨l, D, kd, adK, adV⟩ := G
  obtain ⟨p, e, R, s, m, args, below, meth, c, A⟩ := X
  intro r hr H locs lsA hl hP hS
  exact lv_iinc C.1 C.2.1 d hl hj hv hn hl0 (fun ls2 hl2 => k r hr H locs ls2 hl2 hP hS)
theorem z_iadd (C : g_K G X L ad cc nL own ret lev) {x y : Int32} (d : decode cc pc = .ok (.iadd, 1)) (hq : pc + 1 = q)  (k : g_Z G X L ad nL q ls (.int (x + y) :: st) σ o) : g_Z G X L ad nL pc ls (.int y :: .int x :: st) σ o := by
  subst hq
  obtain ⟨l, D, kd, adK, adV⟩ := G
  obtain ⟨p, e, R, s, m, args, below, meth, c, A⟩ := X
  intro r hr H locs lsA hl hP hS
  exact lv_iadd C.1 C.2.1 d  (k r hr H locs lsA hl hP hS)
theorem z_isub (C : g_K G X L ad cc nL own ret lev) {x y : Int32} (d : decode cc pc = .ok (.isub, 1)) (hq : pc + 1 = q)  (k : g_Z G X L ad nL q ls (.int (x - y) :: st) σ o) : g_Z G X L ad nL pc ls (.int y :: .int x :: st) σ o := by
  subst hq
  obtain ⟨l, D, kd, adK, adV⟩ := G
  obtain ⟨p, e, R, s, m, args, below, meth, c, A⟩ := X
  intro r hr H locs lsA hl hP hS
  exact lv_isub C.1 C.2.1 d  (k r hr H locs lsA hl hP hS)
theorem z_imul (C : g_K G X L ad cc nL own ret lev) {x y : Int32} (d : decode cc pc = .ok (.imul, 1)) (hq : pc + 1 = q)  (k : g_Z G X L ad nL q ls (.int (x * y) :: st) σ o) : g_Z G X L ad nL pc ls (.int y :: .int x :: st) σ o := by
  subst hq
  obtain ⟨l, D, kd, adK, adV⟩ := G
  obtain ⟨p, e, R, s, m, args, below, meth, c, A⟩ := X
  intro r hr H locs lsA hl hP hS
  exact lv_imul C.1 C.2.1 d  (k r hr H locs lsA hl hP hS)
theorem z_iand (C : g_K G X L ad cc nL own ret lev) {x y : Int32} (d : decode cc pc = .ok (.iand, 1)) (hq : pc + 1 = q)  (k : g_Z G X L ad nL q ls (.int (x &&& y) :: st) σ o) : g_Z G X L ad nL pc ls (.int y :: .int x :: st) σ o := by
  subst hq
  obtain ⟨l, D, kd, adK, adV⟩ := G
  obtain ⟨p, e, R, s, m, args, below, meth, c, A⟩ := X
  intro r hr H locs lsA hl hP hS
  exact lv_iand C.1 C.2.1 d  (k r hr H locs lsA hl hP hS)
theorem z_ior (C : g_K G X L ad cc nL own ret lev) {x y : Int32} (d : decode cc pc = .ok (.ior, 1)) (hq : pc + 1 = q)  (k : g_Z G X L ad nL q ls (.int (x ||| y) :: st) σ o) : g_Z G X L ad nL pc ls (.int y :: .int x :: st) σ o := by
  subst hq
  obtain ⟨l, D, kd, adK, adV⟩ := G
  obtain ⟨p, e, R, s, m, args, below, meth, c, A⟩ := X
  intro r hr H locs lsA hl hP hS
  exact lv_ior C.1 C.2.1 d  (k r hr H locs lsA hl hP hS)
theorem z_ishl (C : g_K G X L ad cc nL own ret lev) {x y : Int32} (d : decode cc pc = .ok (.ishl, 1)) (hq : pc + 1 = q)  (k : g_Z G X L ad nL q ls (.int (x <<< (y &&& 31)) :: st) σ o) : g_Z G X L ad nL pc ls (.int y :: .int x :: st) σ o := by
  subst hq
  obtain ⟨l, D, kd, adK, adV⟩ := G
  obtain ⟨p, e, R, s, m, args, below, meth, c, A⟩ := X
  intro r hr H locs lsA hl hP hS
  exact lv_ishl C.1 C.2.1 d  (k r hr H locs lsA hl hP hS)
theorem z_ishr (C : g_K G X L ad cc nL own ret lev) {x y : Int32} (d : decode cc pc = .ok (.ishr, 1)) (hq : pc + 1 = q)  (k : g_Z G X L ad nL q ls (.int (x >>> (y &&& 31)) :: st) σ o) : g_Z G X L ad nL pc ls (.int y :: .int x :: st) σ o := by
  subst hq
  obtain ⟨l, D, kd, adK, adV⟩ := G
  obtain ⟨p, e, R, s, m, args, below, meth, c, A⟩ := X
  intro r hr H locs lsA hl hP hS
  exact lv_ishr C.1 C.2.1 d  (k r hr H locs lsA hl hP hS)
theorem z_ladd (C : g_K G X L ad cc nL own ret lev) {x y : Int64} (d : decode cc pc = .ok (.ladd, 1)) (hq : pc + 1 = q)  (k : g_Z G X L ad nL q ls (.long (x + y) :: st) σ o) : g_Z G X L ad nL pc ls (.long y :: .long x :: st) σ o := by
  subst hq
  obtain ⟨l, D, kd, adK, adV⟩ := G
  obtain ⟨p, e, R, s, m, args, below, meth, c, A⟩ := X
  intro r hr H locs lsA hl hP hS
  exact lv_ladd C.1 C.2.1 d  (k r hr H locs lsA hl hP hS)
theorem z_lsub (C : g_K G X L ad cc nL own ret lev) {x y : Int64} (d : decode cc pc = .ok (.lsub, 1)) (hq : pc + 1 = q)  (k : g_Z G X L ad nL q ls (.long (x - y) :: st) σ o) : g_Z G X L ad nL pc ls (.long y :: .long x :: st) σ o := by
  subst hq
  obtain ⟨l, D, kd, adK, adV⟩ := G
  obtain ⟨p, e, R, s, m, args, below, meth, c, A⟩ := X
  intro r hr H locs lsA hl hP hS
  exact lv_lsub C.1 C.2.1 d  (k r hr H locs lsA hl hP hS)
theorem z_lmul (C : g_K G X L ad cc nL own ret lev) {x y : Int64} (d : decode cc pc = .ok (.lmul, 1)) (hq : pc + 1 = q)  (k : g_Z G X L ad nL q ls (.long (x * y) :: st) σ o) : g_Z G X L ad nL pc ls (.long y :: .long x :: st) σ o := by
  subst hq
  obtain ⟨l, D, kd, adK, adV⟩ := G
  obtain ⟨p, e, R, s, m, args, below, meth, c, A⟩ := X
  intro r hr H locs lsA hl hP hS
  exact lv_lmul C.1 C.2.1 d  (k r hr H locs lsA hl hP hS)
theorem z_land (C : g_K G X L ad cc nL own ret lev) {x y : Int64} (d : decode cc pc = .ok (.land, 1)) (hq : pc + 1 = q)  (k : g_Z G X L ad nL q ls (.long (x &&& y) :: st) σ o) : g_Z G X L ad nL pc ls (.long y :: .long x :: st) σ o := by
  subst hq
  obtain ⟨l, D, kd, adK, adV⟩ := G
  obtain ⟨p, e, R, s, m, args, below, meth, c, A⟩ := X
  intro r hr H locs lsA hl hP hS
  exact lv_land C.1 C.2.1 d  (k r hr H locs lsA hl hP hS)
theorem z_lor (C : g_K G X L ad cc nL own ret lev) {x y : Int64} (d : decode cc pc = .ok (.lor, 1)) (hq : pc + 1 = q)  (k : g_Z G X L ad nL q ls (.long (x ||| y) :: st) σ o) : g_Z G X L ad nL pc ls (.long y :: .long x :: st) σ o := by
  subst hq
  obtain ⟨l, D, kd, adK, adV⟩ := G
  obtain ⟨p, e, R, s, m, args, below, meth, c, A⟩ := X
  intro r hr H locs lsA hl hP hS
  exact lv_lor C.1 C.2.1 d  (k r hr H locs lsA hl hP hS)
theorem z_ineg (C : g_K G X L ad cc nL own ret lev) {x : Int32} (d : decode cc pc = .ok (.ineg, 1)) (hq : pc + 1 = q)  (k : g_Z G X L ad nL q ls (.int (-x) :: st) σ o) : g_Z G X L ad nL pc ls (.int x :: st) σ o := by
  subst hq
  obtain ⟨l, D, kd, adK, adV⟩ := G
  obtain ⟨p, e, R, s, m, args, below, meth, c, A⟩ := X
  intro r hr H locs lsA hl hP hS
  exact lv_ineg C.1 C.2.1 d  (k r hr H locs lsA hl hP hS)
theorem z_i2l (C : g_K G X L ad cc nL own ret lev) {x : Int32} (d : decode cc pc = .ok (.i2l, 1)) (hq : pc + 1 = q)  (k : g_Z G X L ad nL q ls (.long x.toInt64 :: st) σ o) : g_Z G X L ad nL pc ls (.int x :: st) σ o := by
  subst hq
  obtain ⟨l, D, kd, adK, adV⟩ := G
  obtain ⟨p, e, R, s, m, args, below, meth, c, A⟩ := X
  intro r hr H locs lsA hl hP hS
  exact lv_i2l C.1 C.2.1 d rfl (k r hr H locs lsA hl hP hS)
theorem z_l2i (C : g_K G X L ad cc nL own ret lev) {x : Int64} (d : decode cc pc = .ok (.l2i, 1)) (hq : pc + 1 = q)  (k : g_Z G X L ad nL q ls (.int x.toInt32 :: st) σ o) : g_Z G X L ad nL pc ls (.long x :: st) σ o := by
  subst hq
  obtain ⟨l, D, kd, adK, adV⟩ := G
  obtain ⟨p, e, R, s, m, args, below, meth, c, A⟩ := X
  intro r hr H locs lsA hl hP hS
  exact lv_l2i C.1 C.2.1 d rfl (k r hr H locs lsA hl hP hS)
theorem z_lushr (C : g_K G X L ad cc nL own ret lev) {x : Int64} {y : Int32} (d : decode cc pc = .ok (.lushr, 1)) (hq : pc + 1 = q)  (k : g_Z G X L ad nL q ls (.long (x.toUInt64 >>> (y.toInt64.toUInt64 &&& Int64.toUInt64 63)).toInt64 :: st) σ o) : g_Z G X L ad nL pc ls (.int y :: .long x :: st) σ o := by
  subst hq
  obtain ⟨l, D, kd, adK, adV⟩ := G
  obtain ⟨p, e, R, s, m, args, below, meth, c, A⟩ := X
  intro r hr H locs lsA hl hP hS
  exact lv_lushr C.1 C.2.1 d rfl (k r hr H locs lsA hl hP hS)
theorem z_dup (C : g_K G X L ad cc nL own ret lev) {va : Value} (d : decode cc pc = .ok (.dup, 1)) (hq : pc + 1 = q) (hva : va.category = 1) (k : g_Z G X L ad nL q ls (va :: va :: st) σ o) : g_Z G X L ad nL pc ls (va :: st) σ o := by
  subst hq
  obtain ⟨l, D, kd, adK, adV⟩ := G
  obtain ⟨p, e, R, s, m, args, below, meth, c, A⟩ := X
  intro r hr H locs lsA hl hP hS
  exact lv_dup C.1 C.2.1 d hva (k r hr H locs lsA hl hP hS)
theorem z_pop (C : g_K G X L ad cc nL own ret lev) {va : Value} (d : decode cc pc = .ok (.pop, 1)) (hq : pc + 1 = q) (hva : va.category = 1) (k : g_Z G X L ad nL q ls (st) σ o) : g_Z G X L ad nL pc ls (va :: st) σ o := by
  subst hq
  obtain ⟨l, D, kd, adK, adV⟩ := G
  obtain ⟨p, e, R, s, m, args, below, meth, c, A⟩ := X
  intro r hr H locs lsA hl hP hS
  exact lv_pop C.1 C.2.1 d hva (k r hr H locs lsA hl hP hS)
theorem z_dup2_11 (C : g_K G X L ad cc nL own ret lev) {va vb : Value} (d : decode cc pc = .ok (.dup2, 1)) (hq : pc + 1 = q) (hva : va.category = 1) (hvb : vb.category = 1) (k : g_Z G X L ad nL q ls (va :: vb :: va :: vb :: st) σ o) : g_Z G X L ad nL pc ls (va :: vb :: st) σ o := by
  subst hq
  obtain ⟨l, D, kd, adK, adV⟩ := G
  obtain ⟨p, e, R, s, m, args, below, meth, c, A⟩ := X
  intro r hr H locs lsA hl hP hS
  exact lv_dup2_11 C.1 C.2.1 d hva hvb (k r hr H locs lsA hl hP hS)
def g_rem (x y : Int32) : Int32 := x - x / y * y
def g_reml (x y : Int64) : Int64 := x - x / y * y
theorem z_idiv (C : g_K G X L ad cc nL own ret lev) {x y : Int32} (d : decode cc pc = .ok (.idiv, 1)) (hq : pc + 1 = q) (k : g_Z G X L ad nL q ls (.int (x / y) :: st) σ o) : g_Z G X L ad nL pc ls (.int y :: .int x :: st) σ (if y = 0 then none else o) := by
  subst hq
  obtain ⟨l, D, kd, adK, adV⟩ := G
  obtain ⟨p, e, R, s, m, args, below, meth, c, A⟩ := X
  intro r hr H locs lsA hl hP hS
  by_cases hy : y = 0
  · rw [if_pos hy] at hr; cases hr
  · rw [if_neg hy] at hr
    exact lv_idiv C.1 C.2.1 d hy (k r hr H locs lsA hl hP hS)
theorem z_idivK (C : g_K G X L ad cc nL own ret lev) {x y : Int32} (hy : ¬ y = 0) (d : decode cc pc = .ok (.idiv, 1)) (hq : pc + 1 = q) (k : g_Z G X L ad nL q ls (.int (x / y) :: st) σ o) : g_Z G X L ad nL pc ls (.int y :: .int x :: st) σ o := by
  subst hq
  obtain ⟨l, D, kd, adK, adV⟩ := G
  obtain ⟨p, e, R, s, m, args, below, meth, c, A⟩ := X
  intro r hr H locs lsA hl hP hS
  exact lv_idiv C.1 C.2.1 d hy (k r hr H locs lsA hl hP hS)
theorem z_irem (C : g_K G X L ad cc nL own ret lev) {x y : Int32} (d : decode cc pc = .ok (.irem, 1)) (hq : pc + 1 = q) (k : g_Z G X L ad nL q ls (.int (g_rem x y) :: st) σ o) : g_Z G X L ad nL pc ls (.int y :: .int x :: st) σ (if y = 0 then none else o) := by
  subst hq
  obtain ⟨l, D, kd, adK, adV⟩ := G
  obtain ⟨p, e, R, s, m, args, below, meth, c, A⟩ := X
  intro r hr H locs lsA hl hP hS
  by_cases hy : y = 0
  · rw [if_pos hy] at hr; cases hr
  · rw [if_neg hy] at hr
    exact lv_irem C.1 C.2.1 d hy (k r hr H locs lsA hl hP hS)
theorem z_iremK (C : g_K G X L ad cc nL own ret lev) {x y : Int32} (hy : ¬ y = 0) (d : decode cc pc = .ok (.irem, 1)) (hq : pc + 1 = q) (k : g_Z G X L ad nL q ls (.int (g_rem x y) :: st) σ o) : g_Z G X L ad nL pc ls (.int y :: .int x :: st) σ o := by
  subst hq
  obtain ⟨l, D, kd, adK, adV⟩ := G
  obtain ⟨p, e, R, s, m, args, below, meth, c, A⟩ := X
  intro r hr H locs lsA hl hP hS
  exact lv_irem C.1 C.2.1 d hy (k r hr H locs lsA hl hP hS)
theorem z_ldiv (C : g_K G X L ad cc nL own ret lev) {x y : Int64} (d : decode cc pc = .ok (.ldiv, 1)) (hq : pc + 1 = q) (k : g_Z G X L ad nL q ls (.long (x / y) :: st) σ o) : g_Z G X L ad nL pc ls (.long y :: .long x :: st) σ (if y = 0 then none else o) := by
  subst hq
  obtain ⟨l, D, kd, adK, adV⟩ := G
  obtain ⟨p, e, R, s, m, args, below, meth, c, A⟩ := X
  intro r hr H locs lsA hl hP hS
  by_cases hy : y = 0
  · rw [if_pos hy] at hr; cases hr
  · rw [if_neg hy] at hr
    exact lv_ldiv C.1 C.2.1 d hy (k r hr H locs lsA hl hP hS)
theorem z_ldivK (C : g_K G X L ad cc nL own ret lev) {x y : Int64} (hy : ¬ y = 0) (d : decode cc pc = .ok (.ldiv, 1)) (hq : pc + 1 = q) (k : g_Z G X L ad nL q ls (.long (x / y) :: st) σ o) : g_Z G X L ad nL pc ls (.long y :: .long x :: st) σ o := by
  subst hq
  obtain ⟨l, D, kd, adK, adV⟩ := G
  obtain ⟨p, e, R, s, m, args, below, meth, c, A⟩ := X
  intro r hr H locs lsA hl hP hS
  exact lv_ldiv C.1 C.2.1 d hy (k r hr H locs lsA hl hP hS)
theorem z_lrem (C : g_K G X L ad cc nL own ret lev) {x y : Int64} (d : decode cc pc = .ok (.lrem, 1)) (hq : pc + 1 = q) (k : g_Z G X L ad nL q ls (.long (g_reml x y) :: st) σ o) : g_Z G X L ad nL pc ls (.long y :: .long x :: st) σ (if y = 0 then none else o) := by
  subst hq
  obtain ⟨l, D, kd, adK, adV⟩ := G
  obtain ⟨p, e, R, s, m, args, below, meth, c, A⟩ := X
  intro r hr H locs lsA hl hP hS
  by_cases hy : y = 0
  · rw [if_pos hy] at hr; cases hr
  · rw [if_neg hy] at hr
    exact lv_lrem C.1 C.2.1 d hy (k r hr H locs lsA hl hP hS)
theorem z_lremK (C : g_K G X L ad cc nL own ret lev) {x y : Int64} (hy : ¬ y = 0) (d : decode cc pc = .ok (.lrem, 1)) (hq : pc + 1 = q) (k : g_Z G X L ad nL q ls (.long (g_reml x y) :: st) σ o) : g_Z G X L ad nL pc ls (.long y :: .long x :: st) σ o := by
  subst hq
  obtain ⟨l, D, kd, adK, adV⟩ := G
  obtain ⟨p, e, R, s, m, args, below, meth, c, A⟩ := X
  intro r hr H locs lsA hl hP hS
  exact lv_lrem C.1 C.2.1 d hy (k r hr H locs lsA hl hP hS)
theorem z_ldc (C : g_K G X L ad cc nL own ret lev) {i : Nat} {v : Int32} (d : decode cc pc = .ok (.ldc i, 2)) (hq : pc + 2 = q) (hw : Cond.constant own i v ∈ wsL_law) (k : g_Z G X L ad nL q ls (.int v :: st) σ o) : g_Z G X L ad nL pc ls (st) σ o := by
  subst hq
  obtain ⟨l, D, kd, adK, adV⟩ := G
  obtain ⟨p, e, R, s, m, args, below, meth, c, A⟩ := X
  intro r hr H locs lsA hl hP hS
  exact lv_ldc C.1 C.2.1 C.2.2.2.2.1 (C.2.2.2.2.2.1 _ hw) d (k r hr H locs lsA hl hP hS)
theorem z_ldcw (C : g_K G X L ad cc nL own ret lev) {i : Nat} {v : Int32} (d : decode cc pc = .ok (.ldc_w i, 3)) (hq : pc + 3 = q) (hw : Cond.constant own i v ∈ wsL_law) (k : g_Z G X L ad nL q ls (.int v :: st) σ o) : g_Z G X L ad nL pc ls (st) σ o := by
  subst hq
  obtain ⟨l, D, kd, adK, adV⟩ := G
  obtain ⟨p, e, R, s, m, args, below, meth, c, A⟩ := X
  intro r hr H locs lsA hl hP hS
  exact lv_ldcw C.1 C.2.1 C.2.2.2.2.1 (C.2.2.2.2.2.1 _ hw) d (k r hr H locs lsA hl hP hS)
theorem z_ldc2 (C : g_K G X L ad cc nL own ret lev) {i : Nat} {v : Int64} (d : decode cc pc = .ok (.ldc2_w i, 3)) (hq : pc + 3 = q) (hw : Cond.constantLong own i v ∈ wsL_law) (k : g_Z G X L ad nL q ls (.long v :: st) σ o) : g_Z G X L ad nL pc ls (st) σ o := by
  subst hq
  obtain ⟨l, D, kd, adK, adV⟩ := G
  obtain ⟨p, e, R, s, m, args, below, meth, c, A⟩ := X
  intro r hr H locs lsA hl hP hS
  exact lv_ldc2 C.1 C.2.1 C.2.2.2.2.1 (C.2.2.2.2.2.1 _ hw) d (k r hr H locs lsA hl hP hS)
theorem z_goto (C : g_K G X L ad cc nL own ret lev) {off : Int} {tgt : Nat} (d : decode cc pc = .ok (.goto off, 3)) (ht : (pc : Int) + off = (tgt : Int)) (k : g_Z G X L ad nL tgt ls st σ o) : g_Z G X L ad nL pc ls st σ o := by
  obtain ⟨l, D, kd, adK, adV⟩ := G
  obtain ⟨p, e, R, s, m, args, below, meth, c, A⟩ := X
  intro r hr H locs lsA hl hP hS
  exact lv_goto C.1 C.2.1 d ht (k r hr H locs lsA hl hP hS)
theorem z_if_eq (C : g_K G X L ad cc nL own ret lev) {x : Int32} {off : Int} {tgt : Nat} (d : decode cc pc = .ok (.ifCond .eq off, 3)) (ht : (pc : Int) + off = (tgt : Int)) (hq : pc + 3 = q) (k1 : g_Z G X L ad nL tgt ls st σ o1) (k2 : g_Z G X L ad nL q ls st σ o2) : g_Z G X L ad nL pc ls (.int x :: st) σ (if x = 0 then o1 else o2) := by
  subst hq
  obtain ⟨l, D, kd, adK, adV⟩ := G
  obtain ⟨p, e, R, s, m, args, below, meth, c, A⟩ := X
  intro r hr H locs lsA hl hP hS
  exact lv_if_eq C.1 C.2.1 d ht (fun h => k1 r (by rw [if_pos h] at hr; exact hr) H locs lsA hl hP hS) (fun h => k2 r (by rw [if_neg h] at hr; exact hr) H locs lsA hl hP hS)
theorem z_if_ne (C : g_K G X L ad cc nL own ret lev) {x : Int32} {off : Int} {tgt : Nat} (d : decode cc pc = .ok (.ifCond .ne off, 3)) (ht : (pc : Int) + off = (tgt : Int)) (hq : pc + 3 = q) (k1 : g_Z G X L ad nL tgt ls st σ o1) (k2 : g_Z G X L ad nL q ls st σ o2) : g_Z G X L ad nL pc ls (.int x :: st) σ (if x = 0 then o2 else o1) := by
  subst hq
  obtain ⟨l, D, kd, adK, adV⟩ := G
  obtain ⟨p, e, R, s, m, args, below, meth, c, A⟩ := X
  intro r hr H locs lsA hl hP hS
  exact lv_if_ne C.1 C.2.1 d ht (fun h => k1 r (by rw [if_neg h] at hr; exact hr) H locs lsA hl hP hS) (fun h => k2 r (by rw [if_pos h] at hr; exact hr) H locs lsA hl hP hS)
theorem z_if_lt (C : g_K G X L ad cc nL own ret lev) {x : Int32} {off : Int} {tgt : Nat} (d : decode cc pc = .ok (.ifCond .lt off, 3)) (ht : (pc : Int) + off = (tgt : Int)) (hq : pc + 3 = q) (k1 : g_Z G X L ad nL tgt ls st σ o1) (k2 : g_Z G X L ad nL q ls st σ o2) : g_Z G X L ad nL pc ls (.int x :: st) σ (if x < 0 then o1 else o2) := by
  subst hq
  obtain ⟨l, D, kd, adK, adV⟩ := G
  obtain ⟨p, e, R, s, m, args, below, meth, c, A⟩ := X
  intro r hr H locs lsA hl hP hS
  exact lv_if_lt C.1 C.2.1 d ht (fun h => k1 r (by rw [if_pos h] at hr; exact hr) H locs lsA hl hP hS) (fun h => k2 r (by rw [if_neg h] at hr; exact hr) H locs lsA hl hP hS)
theorem z_if_ge (C : g_K G X L ad cc nL own ret lev) {x : Int32} {off : Int} {tgt : Nat} (d : decode cc pc = .ok (.ifCond .ge off, 3)) (ht : (pc : Int) + off = (tgt : Int)) (hq : pc + 3 = q) (k1 : g_Z G X L ad nL tgt ls st σ o1) (k2 : g_Z G X L ad nL q ls st σ o2) : g_Z G X L ad nL pc ls (.int x :: st) σ (if 0 ≤ x then o1 else o2) := by
  subst hq
  obtain ⟨l, D, kd, adK, adV⟩ := G
  obtain ⟨p, e, R, s, m, args, below, meth, c, A⟩ := X
  intro r hr H locs lsA hl hP hS
  exact lv_if_ge C.1 C.2.1 d ht (fun h => k1 r (by rw [if_pos h] at hr; exact hr) H locs lsA hl hP hS) (fun h => k2 r (by rw [if_neg h] at hr; exact hr) H locs lsA hl hP hS)
theorem z_if_gt (C : g_K G X L ad cc nL own ret lev) {x : Int32} {off : Int} {tgt : Nat} (d : decode cc pc = .ok (.ifCond .gt off, 3)) (ht : (pc : Int) + off = (tgt : Int)) (hq : pc + 3 = q) (k1 : g_Z G X L ad nL tgt ls st σ o1) (k2 : g_Z G X L ad nL q ls st σ o2) : g_Z G X L ad nL pc ls (.int x :: st) σ (if 0 < x then o1 else o2) := by
  subst hq
  obtain ⟨l, D, kd, adK, adV⟩ := G
  obtain ⟨p, e, R, s, m, args, below, meth, c, A⟩ := X
  intro r hr H locs lsA hl hP hS
  exact lv_if_gt C.1 C.2.1 d ht (fun h => k1 r (by rw [if_pos h] at hr; exact hr) H locs lsA hl hP hS) (fun h => k2 r (by rw [if_neg h] at hr; exact hr) H locs lsA hl hP hS)
theorem z_if_le (C : g_K G X L ad cc nL own ret lev) {x : Int32} {off : Int} {tgt : Nat} (d : decode cc pc = .ok (.ifCond .le off, 3)) (ht : (pc : Int) + off = (tgt : Int)) (hq : pc + 3 = q) (k1 : g_Z G X L ad nL tgt ls st σ o1) (k2 : g_Z G X L ad nL q ls st σ o2) : g_Z G X L ad nL pc ls (.int x :: st) σ (if x ≤ 0 then o1 else o2) := by
  subst hq
  obtain ⟨l, D, kd, adK, adV⟩ := G
  obtain ⟨p, e, R, s, m, args, below, meth, c, A⟩ := X
  intro r hr H locs lsA hl hP hS
  exact lv_if_le C.1 C.2.1 d ht (fun h => k1 r (by rw [if_pos h] at hr; exact hr) H locs lsA hl hP hS) (fun h => k2 r (by rw [if_neg h] at hr; exact hr) H locs lsA hl hP hS)
theorem z_icmp_eq (C : g_K G X L ad cc nL own ret lev) {x y : Int32} {off : Int} {tgt : Nat} (d : decode cc pc = .ok (.if_icmp .eq off, 3)) (ht : (pc : Int) + off = (tgt : Int)) (hq : pc + 3 = q) (k1 : g_Z G X L ad nL tgt ls st σ o1) (k2 : g_Z G X L ad nL q ls st σ o2) : g_Z G X L ad nL pc ls (.int y :: .int x :: st) σ (if x = y then o1 else o2) := by
  subst hq
  obtain ⟨l, D, kd, adK, adV⟩ := G
  obtain ⟨p, e, R, s, m, args, below, meth, c, A⟩ := X
  intro r hr H locs lsA hl hP hS
  exact lv_icmp_eq C.1 C.2.1 d ht (fun h => k1 r (by rw [if_pos h] at hr; exact hr) H locs lsA hl hP hS) (fun h => k2 r (by rw [if_neg h] at hr; exact hr) H locs lsA hl hP hS)
theorem z_icmp_ne (C : g_K G X L ad cc nL own ret lev) {x y : Int32} {off : Int} {tgt : Nat} (d : decode cc pc = .ok (.if_icmp .ne off, 3)) (ht : (pc : Int) + off = (tgt : Int)) (hq : pc + 3 = q) (k1 : g_Z G X L ad nL tgt ls st σ o1) (k2 : g_Z G X L ad nL q ls st σ o2) : g_Z G X L ad nL pc ls (.int y :: .int x :: st) σ (if x = y then o2 else o1) := by
  subst hq
  obtain ⟨l, D, kd, adK, adV⟩ := G
  obtain ⟨p, e, R, s, m, args, below, meth, c, A⟩ := X
  intro r hr H locs lsA hl hP hS
  exact lv_icmp_ne C.1 C.2.1 d ht (fun h => k1 r (by rw [if_neg h] at hr; exact hr) H locs lsA hl hP hS) (fun h => k2 r (by rw [if_pos h] at hr; exact hr) H locs lsA hl hP hS)
theorem z_icmp_lt (C : g_K G X L ad cc nL own ret lev) {x y : Int32} {off : Int} {tgt : Nat} (d : decode cc pc = .ok (.if_icmp .lt off, 3)) (ht : (pc : Int) + off = (tgt : Int)) (hq : pc + 3 = q) (k1 : g_Z G X L ad nL tgt ls st σ o1) (k2 : g_Z G X L ad nL q ls st σ o2) : g_Z G X L ad nL pc ls (.int y :: .int x :: st) σ (if x < y then o1 else o2) := by
  subst hq
  obtain ⟨l, D, kd, adK, adV⟩ := G
  obtain ⟨p, e, R, s, m, args, below, meth, c, A⟩ := X
  intro r hr H locs lsA hl hP hS
  exact lv_icmp_lt C.1 C.2.1 d ht (fun h => k1 r (by rw [if_pos h] at hr; exact hr) H locs lsA hl hP hS) (fun h => k2 r (by rw [if_neg h] at hr; exact hr) H locs lsA hl hP hS)
theorem z_icmp_ge (C : g_K G X L ad cc nL own ret lev) {x y : Int32} {off : Int} {tgt : Nat} (d : decode cc pc = .ok (.if_icmp .ge off, 3)) (ht : (pc : Int) + off = (tgt : Int)) (hq : pc + 3 = q) (k1 : g_Z G X L ad nL tgt ls st σ o1) (k2 : g_Z G X L ad nL q ls st σ o2) : g_Z G X L ad nL pc ls (.int y :: .int x :: st) σ (if y ≤ x then o1 else o2) := by
  subst hq
  obtain ⟨l, D, kd, adK, adV⟩ := G
  obtain ⟨p, e, R, s, m, args, below, meth, c, A⟩ := X
  intro r hr H locs lsA hl hP hS
  exact lv_icmp_ge C.1 C.2.1 d ht (fun h => k1 r (by rw [if_pos h] at hr; exact hr) H locs lsA hl hP hS) (fun h => k2 r (by rw [if_neg h] at hr; exact hr) H locs lsA hl hP hS)
theorem z_icmp_gt (C : g_K G X L ad cc nL own ret lev) {x y : Int32} {off : Int} {tgt : Nat} (d : decode cc pc = .ok (.if_icmp .gt off, 3)) (ht : (pc : Int) + off = (tgt : Int)) (hq : pc + 3 = q) (k1 : g_Z G X L ad nL tgt ls st σ o1) (k2 : g_Z G X L ad nL q ls st σ o2) : g_Z G X L ad nL pc ls (.int y :: .int x :: st) σ (if y < x then o1 else o2) := by
  subst hq
  obtain ⟨l, D, kd, adK, adV⟩ := G
  obtain ⟨p, e, R, s, m, args, below, meth, c, A⟩ := X
  intro r hr H locs lsA hl hP hS
  exact lv_icmp_gt C.1 C.2.1 d ht (fun h => k1 r (by rw [if_pos h] at hr; exact hr) H locs lsA hl hP hS) (fun h => k2 r (by rw [if_neg h] at hr; exact hr) H locs lsA hl hP hS)
theorem z_icmp_le (C : g_K G X L ad cc nL own ret lev) {x y : Int32} {off : Int} {tgt : Nat} (d : decode cc pc = .ok (.if_icmp .le off, 3)) (ht : (pc : Int) + off = (tgt : Int)) (hq : pc + 3 = q) (k1 : g_Z G X L ad nL tgt ls st σ o1) (k2 : g_Z G X L ad nL q ls st σ o2) : g_Z G X L ad nL pc ls (.int y :: .int x :: st) σ (if x ≤ y then o1 else o2) := by
  subst hq
  obtain ⟨l, D, kd, adK, adV⟩ := G
  obtain ⟨p, e, R, s, m, args, below, meth, c, A⟩ := X
  intro r hr H locs lsA hl hP hS
  exact lv_icmp_le C.1 C.2.1 d ht (fun h => k1 r (by rw [if_pos h] at hr; exact hr) H locs lsA hl hP hS) (fun h => k2 r (by rw [if_neg h] at hr; exact hr) H locs lsA hl hP hS)
theorem z_iret (C : g_K G X L ad cc nL own (some .int) lev) {x : Int32} (d : decode cc pc = .ok (.ireturn, 1)) : g_Z G X L ad nL pc ls [.int x] σ (some (some (.int x), σ)) := by
  obtain ⟨l, D, kd, adK, adV⟩ := G
  obtain ⟨p, e, R, s, m, args, below, meth, c, A⟩ := X
  obtain ⟨hx, hb, hml, hr0, hown, hts, hlk, hK, hap, hA, hRc, hRs, hRf, hRl, hStr⟩ := C
  intro r hr H locs lsA hl hP hS
  cases hr
  exact W.iret hx hb hr0 (fun t ht hW => ⟨⟨rfl, by rw [g_B, ht]; exact ⟨hP, va_K.moved hW.alike hK⟩⟩, hS.F ht⟩) hS.2.2 d hlk
theorem g_nb {x : Int32} (h : x = 0 ∨ x = 1) : narrow .boolean (.int x) = .int x := by rcases h with rfl | rfl <;> rfl
theorem z_zretK (C : g_K G X L ad cc nL own (some .boolean) lev) {x : Int32} (hx1 : x = 0 ∨ x = 1) (d : decode cc pc = .ok (.ireturn, 1)) : g_Z G X L ad nL pc ls [.int x] σ (some (some (.int x), σ)) := by
  obtain ⟨l, D, kd, adK, adV⟩ := G
  obtain ⟨p, e, R, s, m, args, below, meth, c, A⟩ := X
  obtain ⟨hx, hb, hml, hr0, hown, hts, hlk, hK, hap, hA, hRc, hRs, hRf, hRl, hStr⟩ := C
  intro r hr H locs lsA hl hP hS
  cases hr
  exact W.zret hx hb hr0 (g_nb hx1) (fun t ht hW => ⟨⟨rfl, by rw [g_B, ht]; exact ⟨hP, va_K.moved hW.alike hK⟩⟩, hS.F ht⟩) hS.2.2 d hlk
def g_01 (x : Int32) (o : gR) : gR := if x = 0 ∨ x = 1 then o else none
theorem z_zret (C : g_K G X L ad cc nL own (some .boolean) lev) {x : Int32} (d : decode cc pc = .ok (.ireturn, 1)) : g_Z G X L ad nL pc ls [.int x] σ (g_01 x (some (some (.int x), σ))) := by
  unfold g_01
  by_cases h : x = 0 ∨ x = 1
  · rw [if_pos h]; exact z_zretK C h d
  · rw [if_neg h]; obtain ⟨l, D, kd, adK, adV⟩ := G; obtain ⟨p, e, R, s, m, args, below, meth, c, A⟩ := X; intro r hr; cases hr
theorem z_vret (C : g_K G X L ad cc nL own none lev) (d : decode cc pc = .ok (.return_, 1)) : g_Z G X L ad nL pc ls [] σ (some (none, σ)) := by
  obtain ⟨l, D, kd, adK, adV⟩ := G
  obtain ⟨p, e, R, s, m, args, below, meth, c, A⟩ := X
  obtain ⟨hx, hb, hml, hr0, hown, hts, hlk, hK, hap, hA, hRc, hRs, hRf, hRl, hStr⟩ := C
  intro r hr H locs lsA hl hP hS
  cases hr
  exact W.vret hx hb hr0 (fun t ht hW => ⟨⟨rfl, by rw [g_B, ht]; exact ⟨hP, va_K.moved hW.alike hK⟩⟩, hS.F ht⟩) hS.2.2 d hlk

/-- a field, by its place in a class's pool: class ci, slot j -/
def g_F (own : String) (i ci j : Nat) : Prop := ∃ (Cn : String) (T : u_T) (N : Nat), vwCl[ci]? = some (Cn, T, N) ∧ j < N ∧ (∀ w ∈ u_ws Cn T N, w ∈ wsL_law) ∧ (Cond.fieldLink own i (T j).1 (T j).2.1 (T j).2.2.1 ∈ wsL_law ∨ (own, i, (T j).1, (T j).2.1, (T j).2.2.1) ∈ g_fn)
def g_FP (own : String) (i ci j : Nat) (ty : FieldType) : Prop := ∃ (Cn : String) (T : u_T) (N : Nat) (ty0 : Nat → FieldType), vwCl[ci]? = some (Cn, T, N) ∧ j < N ∧ (∀ w ∈ u_ws Cn T N, w ∈ wsL_law) ∧ (Cond.fieldLink own i (T j).1 (T j).2.1 (T j).2.2.1 ∈ wsL_law ∨ (own, i, (T j).1, (T j).2.1, (T j).2.2.1) ∈ g_fn) ∧ (∀ k, k < N → parseFieldDescriptor (T k).2.2.1 = some (ty0 k)) ∧ (∀ a, a < N → ∀ b, b < N → a ≠ b → (T a).2.1 ≠ (T b).2.1) ∧ (T j).2.2.2 = false ∧ parseFieldDescriptor (T j).2.2.1 = some ty
def g_obj (L : gL) (k ci : Nat) (fs : List (Option Nat)) : Prop := k < L.1 ∧ L.2 k = .inr (ci, fs)
def g_arr (L : gL) (k t n : Nat) : Prop := k < L.1 ∧ L.2 k = .inl (t, n)
theorem z_getI (C : g_K G X L ad cc nL own ret lev) {i ci j k : Nat} {fs : List (Option Nat)} (ho : g_obj L k ci fs) (hF : g_F own i ci j) (hf : fs[j]? = some none) (d : decode cc pc = .ok (.getfield i, 3)) (hq : pc + 3 = q) (kk : g_Z G X L ad nL q ls (.int (σ.1 k j) :: st) σ o) : g_Z G X L ad nL pc ls (.ref (ad k) :: st) σ o := by
  subst hq
  obtain ⟨l, D, kd, adK, adV⟩ := G
  obtain ⟨p, e, R, s, m, args, below, meth, c, A⟩ := X
  obtain ⟨hx, hb, hml, hr0, hown, hts, hlk, hK, hap, hA, hRc, hRs, hRf, hRl, hStr⟩ := C
  intro r hr H locs lsA hl hP hS
  obtain ⟨Cn, T, N, hc, hj, hin, hlk2⟩ := hF
  have he := g_W_get (kd := kd) (ad := ad) (σ := σ) ho.1
  rw [ho.2] at he
  have hv := g_fv_none ad (σ.1 k) fs 0 j hf
  rw [Nat.zero_add] at hv
  rcases hlk2 with h2 | h2
  · exact va_get (D := D) hx hb hts hin hown hK hP k he hc j hj (hts _ h2) (fun _ h => h) hv d (kk r hr H locs lsA hl hP hS)
  · exact va_getN (D := D) hx hb hts hin hown hK hP k he hc j hj (va_Nw.use rfl (hStr.2.2.2 _ h2)) (fun _ h => h) hv d (kk r hr H locs lsA hl hP hS)
theorem z_getR (C : g_K G X L ad cc nL own ret lev) {i ci j k a : Nat} {fs : List (Option Nat)} (ho : g_obj L k ci fs) (hF : g_F own i ci j) (hf : fs[j]? = some (some a)) (d : decode cc pc = .ok (.getfield i, 3)) (hq : pc + 3 = q) (kk : g_Z G X L ad nL q ls (.ref (ad a) :: st) σ o) : g_Z G X L ad nL pc ls (.ref (ad k) :: st) σ o := by
  subst hq
  obtain ⟨l, D, kd, adK, adV⟩ := G
  obtain ⟨p, e, R, s, m, args, below, meth, c, A⟩ := X
  obtain ⟨hx, hb, hml, hr0, hown, hts, hlk, hK, hap, hA, hRc, hRs, hRf, hRl, hStr⟩ := C
  intro r hr H locs lsA hl hP hS
  obtain ⟨Cn, T, N, hc, hj, hin, hlk2⟩ := hF
  have he := g_W_get (kd := kd) (ad := ad) (σ := σ) ho.1
  rw [ho.2] at he
  have hv := g_fv_some ad (σ.1 k) fs 0 j hf
  rcases hlk2 with h2 | h2
  · exact va_get (D := D) hx hb hts hin hown hK hP k he hc j hj (hts _ h2) (fun _ h => h) hv d (kk r hr H locs lsA hl hP hS)
  · exact va_getN (D := D) hx hb hts hin hown hK hP k he hc j hj (va_Nw.use rfl (hStr.2.2.2 _ h2)) (fun _ h => h) hv d (kk r hr H locs lsA hl hP hS)
def g_let (σ : gS) (f : gS → gR) : gR := f σ
def g_leti (x : Int32) (f : Int32 → gR) : gR := f x
def g_letl (x : Int64) (f : Int64 → gR) : gR := f x
theorem g_cell_si {kd : Nat → ClassId} {σ : gS} {k j ci : Nat} {v : Int32} {fs : List (Option Nat)} (hf : fs[j]? = some none) : g_cell kd ad ((g_si σ k j v).1 k) ((g_si σ k j v).2 k) (.inr (ci, fs)) = .inr (ci, (g_fv ad (σ.1 k) fs 0).set j (.int v)) := by
  have h := g_fv_set ad (σ.1 k) v fs 0 j hf
  rw [Nat.zero_add] at h
  simp [g_cell, g_si, h]
theorem g_si_ne {σ : gS} {k j : Nat} {v : Int32} : ∀ i, i ≠ k → (g_si σ k j v).1 i = σ.1 i ∧ (g_si σ k j v).2 i = σ.2 i := fun i hi => ⟨by simp [g_si, hi], rfl⟩
theorem g_sl_ne {σ : gS} {k j : Nat} {v : Int64} : ∀ i, i ≠ k → (g_sl σ k j v).1 i = σ.1 i ∧ (g_sl σ k j v).2 i = σ.2 i := fun i hi => ⟨rfl, by simp [g_sl, hi]⟩
theorem z_putG (C : g_K G X L ad cc nL own ret lev) {i ci j k : Nat} {fs : List (Option Nat)} {ty : FieldType} {v : Int32} {f : gS → gR} (ho : g_obj L k ci fs) (hF : g_FP own i ci j ty) (hf : fs[j]? = some none) (hn : narrow ty (.int v) = .int v) (hfit : fits ty (.int v) = true) (d : decode cc pc = .ok (.putfield i, 3)) (hq : pc + 3 = q) (kk : ∀ σ', g_Z G X L ad nL q ls st σ' (f σ')) : g_Z G X L ad nL pc ls (.int v :: .ref (ad k) :: st) σ (g_let (g_si σ k j v) f) := by
  subst hq
  obtain ⟨l, D, kd, adK, adV⟩ := G
  obtain ⟨p, e, R, s, m, args, below, meth, c, A⟩ := X
  obtain ⟨hx, hb, hml, hr0, hown, hts, hlk, hK, hap, hA, hRc, hRs, hRf, hRl, hStr⟩ := C
  intro r hr H locs lsA hl hP hS
  obtain ⟨Cn, T, N, ty0, hc, hj, hin, hlk2, hty, hnm, hfin, hd⟩ := hF
  have he := g_W_get (kd := kd) (ad := ad) (σ := σ) ho.1
  rw [ho.2] at he
  have hjl : j < (g_fv ad (σ.1 k) fs 0).length := by
    rw [g_fv_len]
    exact (List.getElem?_eq_some_iff.mp hf).1
  have hD := gk_D (kd := kd) hap hA σ
  have kk2 : ∀ (H1 : Heap) (locs1 : List Loc), va_P D vwCl ((g_W L kd ad σ).set k (ad k, .inr (ci, (g_fv ad (σ.1 k) fs 0).set j (.int v)))) H1 → va_D A ((g_W L kd ad σ).set k (ad k, .inr (ci, (g_fv ad (σ.1 k) fs 0).set j (.int v)))) → va_S A s.heap H1 locs1 → W p l e R s m args below meth c H1 locs1 0 0 (MQ below (g_Q L ad D kd A r) args s 0 0 A) (F0 m (pc + 3) lsA st) := fun H1 locs1 hP1 _ hS1 => by
    refine kk (g_si σ k j v) r hr H1 locs1 lsA hl ?_ hS1
    have e1 := g_W_set (L := L) (kd := kd) (ad := ad) (σ := σ) (σ' := g_si σ k j v) (k := k) (c := .inr (ci, (g_fv ad (σ.1 k) fs 0).set j (.int v))) (by rw [ho.2]; exact g_cell_si hf) g_si_ne
    rw [← e1]
    exact hP1
  rcases hlk2 with h2 | h2
  · exact va_put (D := D) hx hb hts hin ty0 hty hnm hown hK hP hD hS k he hc j hj (hts _ h2) (fun _ h => h) hfin hd hn hfit hjl d kk2
  · exact va_putN (D := D) hx hb hts hin ty0 hty hnm hown hK hP hD hS k he hc j hj (va_Nw.use rfl (hStr.2.2.2 _ h2)) (fun _ h => h) hfin hd hn hfit hjl d kk2
theorem z_putI (C : g_K G X L ad cc nL own ret lev) {i ci j k : Nat} {fs : List (Option Nat)} {v : Int32} {f : gS → gR} (ho : g_obj L k ci fs) (hF : g_FP own i ci j .int) (hf : fs[j]? = some none) (d : decode cc pc = .ok (.putfield i, 3)) (hq : pc + 3 = q) (kk : ∀ σ', g_Z G X L ad nL q ls st σ' (f σ')) : g_Z G X L ad nL pc ls (.int v :: .ref (ad k) :: st) σ (g_let (g_si σ k j v) f) := z_putG C ho hF hf rfl rfl d hq kk
theorem z_putZK (C : g_K G X L ad cc nL own ret lev) {i ci j k : Nat} {fs : List (Option Nat)} {v : Int32} {f : gS → gR} (hv : v = 0 ∨ v = 1) (ho : g_obj L k ci fs) (hF : g_FP own i ci j .boolean) (hf : fs[j]? = some none) (d : decode cc pc = .ok (.putfield i, 3)) (hq : pc + 3 = q) (kk : ∀ σ', g_Z G X L ad nL q ls st σ' (f σ')) : g_Z G X L ad nL pc ls (.int v :: .ref (ad k) :: st) σ (g_let (g_si σ k j v) f) := z_putG C ho hF hf (g_nb hv) (by rcases hv with rfl | rfl <;> rfl) d hq kk
theorem z_putZ (C : g_K G X L ad cc nL own ret lev) {i ci j k : Nat} {fs : List (Option Nat)} {v : Int32} {f : gS → gR} (ho : g_obj L k ci fs) (hF : g_FP own i ci j .boolean) (hf : fs[j]? = some none) (d : decode cc pc = .ok (.putfield i, 3)) (hq : pc + 3 = q) (kk : ∀ σ', g_Z G X L ad nL q ls st σ' (f σ')) : g_Z G X L ad nL pc ls (.int v :: .ref (ad k) :: st) σ (g_01 v (g_let (g_si σ k j v) f)) := by
  unfold g_01
  by_cases h : v = 0 ∨ v = 1
  · rw [if_pos h]; exact z_putZK C h ho hF hf d hq kk
  · rw [if_neg h]; obtain ⟨l, D, kd, adK, adV⟩ := G; obtain ⟨p, e, R, s, m, args, below, meth, c, A⟩ := X; intro r hr; cases hr
/-- an index, looked at -/
def g_ix (i : Int32) (n : Nat) (o : gR) : gR := if i < 0 ∨ n ≤ i.toNatClampNeg then none else o
theorem g_ix_in {i : Int32} {n : Nat} {o : gR} {r : Option Value × gS} (h : g_ix i n o = some r) : vp_in i n ∧ o = some r := by
  unfold g_ix at h
  by_cases q : i < 0 ∨ n ≤ i.toNatClampNeg
  · rw [if_pos q] at h; cases h
  · rw [if_neg q] at h; exact ⟨q, h⟩

theorem z_iald (C : g_K G X L ad cc nL own ret lev) {k n : Nat} {i : Int32} (ha : g_arr L k 0 n) (d : decode cc pc = .ok (.iaload, 1)) (hq : pc + 1 = q) (kk : g_Z G X L ad nL q ls (.int (σ.1 k i.toNatClampNeg) :: st) σ o) : g_Z G X L ad nL pc ls (.int i :: .ref (ad k) :: st) σ (g_ix i n o) := by
  subst hq
  obtain ⟨l, D, kd, adK, adV⟩ := G
  obtain ⟨p, e, R, s, m, args, below, meth, c, A⟩ := X
  obtain ⟨hx, hb, hml, hr0, hown, hts, hlk, hK, hap, hA, hRc, hRs, hRf, hRl, hStr⟩ := C
  intro r hr H locs lsA hl hP hS
  obtain ⟨hin, hr⟩ := g_ix_in hr
  have he := g_W_get (kd := kd) (ad := ad) (σ := σ) ha.1
  rw [ha.2] at he
  exact va_iald (D := D) hx hb hK hP k 0 he rfl hin d (kk r hr H locs lsA hl hP hS)
theorem z_zald (C : g_K G X L ad cc nL own ret lev) {k n : Nat} {i : Int32} (ha : g_arr L k 1 n) (d : decode cc pc = .ok (.baload, 1)) (hq : pc + 1 = q) (kk : g_Z G X L ad nL q ls (.int (σ.1 k i.toNatClampNeg) :: st) σ o) : g_Z G X L ad nL pc ls (.int i :: .ref (ad k) :: st) σ (g_ix i n o) := by
  subst hq
  obtain ⟨l, D, kd, adK, adV⟩ := G
  obtain ⟨p, e, R, s, m, args, below, meth, c, A⟩ := X
  obtain ⟨hx, hb, hml, hr0, hown, hts, hlk, hK, hap, hA, hRc, hRs, hRf, hRl, hStr⟩ := C
  intro r hr H locs lsA hl hP hS
  obtain ⟨hin, hr⟩ := g_ix_in hr
  have he := g_W_get (kd := kd) (ad := ad) (σ := σ) ha.1
  rw [ha.2] at he
  exact va_zald (D := D) hx hb hK hP k 1 he rfl hin d (kk r hr H locs lsA hl hP hS)
theorem z_lald (C : g_K G X L ad cc nL own ret lev) {k n : Nat} {i : Int32} (ha : g_arr L k 2 n) (d : decode cc pc = .ok (.laload, 1)) (hq : pc + 1 = q) (kk : g_Z G X L ad nL q ls (.long (σ.2 k i.toNatClampNeg) :: st) σ o) : g_Z G X L ad nL pc ls (.int i :: .ref (ad k) :: st) σ (g_ix i n o) := by
  subst hq
  obtain ⟨l, D, kd, adK, adV⟩ := G
  obtain ⟨p, e, R, s, m, args, below, meth, c, A⟩ := X
  obtain ⟨hx, hb, hml, hr0, hown, hts, hlk, hK, hap, hA, hRc, hRs, hRf, hRl, hStr⟩ := C
  intro r hr H locs lsA hl hP hS
  obtain ⟨hin, hr⟩ := g_ix_in hr
  have he := g_W_get (kd := kd) (ad := ad) (σ := σ) ha.1
  rw [ha.2] at he
  exact va_lald (D := D) hx hb hK hP k 2 he rfl hin d (kk r hr H locs lsA hl hP hS)
theorem z_iast (C : g_K G X L ad cc nL own ret lev) {k n : Nat} {i : Int32} {x : Int32} {f : gS → gR} (ha : g_arr L k 0 n) (d : decode cc pc = .ok (.iastore, 1)) (hq : pc + 1 = q) (kk : ∀ σ', g_Z G X L ad nL q ls st σ' (f σ')) : g_Z G X L ad nL pc ls (.int x :: .int i :: .ref (ad k) :: st) σ (g_ix i n (g_let (g_si σ k i.toNatClampNeg x) f)) := by
  subst hq
  obtain ⟨l, D, kd, adK, adV⟩ := G
  obtain ⟨p, e, R, s, m, args, below, meth, c, A⟩ := X
  obtain ⟨hx, hb, hml, hr0, hown, hts, hlk, hK, hap, hA, hRc, hRs, hRf, hRl, hStr⟩ := C
  intro r hr H locs lsA hl hP hS
  obtain ⟨hin, hr⟩ := g_ix_in hr
  have he := g_W_get (kd := kd) (ad := ad) (σ := σ) ha.1
  rw [ha.2] at he
  refine va_iast (D := D) hx hb hK hP (gk_D (kd := kd) hap hA σ) hS k 0 he rfl hin d (fun H1 locs1 hP1 _ hS1 => ?_)
  refine kk (g_si σ k i.toNatClampNeg x) r hr H1 locs1 lsA hl ?_ hS1
  refine Eq.mp (congrArg (fun w => va_P D vwCl w H1) (g_W_set (L := L) (kd := kd) (ad := ad) (σ := σ) (σ' := g_si σ k i.toNatClampNeg x) (k := k) ?_ g_si_ne)) hP1
  rw [ha.2]
  simp [g_cell, g_si]
theorem z_zast (C : g_K G X L ad cc nL own ret lev) {k n : Nat} {i : Int32} {x : Int32} {f : gS → gR} (ha : g_arr L k 1 n) (d : decode cc pc = .ok (.bastore, 1)) (hq : pc + 1 = q) (kk : ∀ σ', g_Z G X L ad nL q ls st σ' (f σ')) : g_Z G X L ad nL pc ls (.int x :: .int i :: .ref (ad k) :: st) σ (g_ix i n (g_let (g_si σ k i.toNatClampNeg (vp_nar .boolean x)) f)) := by
  subst hq
  obtain ⟨l, D, kd, adK, adV⟩ := G
  obtain ⟨p, e, R, s, m, args, below, meth, c, A⟩ := X
  obtain ⟨hx, hb, hml, hr0, hown, hts, hlk, hK, hap, hA, hRc, hRs, hRf, hRl, hStr⟩ := C
  intro r hr H locs lsA hl hP hS
  obtain ⟨hin, hr⟩ := g_ix_in hr
  have he := g_W_get (kd := kd) (ad := ad) (σ := σ) ha.1
  rw [ha.2] at he
  refine va_zast (D := D) hx hb hK hP (gk_D (kd := kd) hap hA σ) hS k 1 he rfl hin d (fun H1 locs1 hP1 _ hS1 => ?_)
  refine kk (g_si σ k i.toNatClampNeg (vp_nar .boolean x)) r hr H1 locs1 lsA hl ?_ hS1
  refine Eq.mp (congrArg (fun w => va_P D vwCl w H1) (g_W_set (L := L) (kd := kd) (ad := ad) (σ := σ) (σ' := g_si σ k i.toNatClampNeg (vp_nar .boolean x)) (k := k) ?_ g_si_ne)) hP1
  rw [ha.2]
  simp [g_cell, g_si]
theorem z_last (C : g_K G X L ad cc nL own ret lev) {k n : Nat} {i : Int32} {x : Int64} {f : gS → gR} (ha : g_arr L k 2 n) (d : decode cc pc = .ok (.lastore, 1)) (hq : pc + 1 = q) (kk : ∀ σ', g_Z G X L ad nL q ls st σ' (f σ')) : g_Z G X L ad nL pc ls (.long x :: .int i :: .ref (ad k) :: st) σ (g_ix i n (g_let (g_sl σ k i.toNatClampNeg x) f)) := by
  subst hq
  obtain ⟨l, D, kd, adK, adV⟩ := G
  obtain ⟨p, e, R, s, m, args, below, meth, c, A⟩ := X
  obtain ⟨hx, hb, hml, hr0, hown, hts, hlk, hK, hap, hA, hRc, hRs, hRf, hRl, hStr⟩ := C
  intro r hr H locs lsA hl hP hS
  obtain ⟨hin, hr⟩ := g_ix_in hr
  have he := g_W_get (kd := kd) (ad := ad) (σ := σ) ha.1
  rw [ha.2] at he
  refine va_last (D := D) hx hb hK hP (gk_D (kd := kd) hap hA σ) hS k 2 he rfl hin d (fun H1 locs1 hP1 _ hS1 => ?_)
  refine kk (g_sl σ k i.toNatClampNeg x) r hr H1 locs1 lsA hl ?_ hS1
  refine Eq.mp (congrArg (fun w => va_P D vwCl w H1) (g_W_set (L := L) (kd := kd) (ad := ad) (σ := σ) (σ' := g_sl σ k i.toNatClampNeg x) (k := k) ?_ g_sl_ne)) hP1
  rw [ha.2]
  simp [g_cell, g_sl]
theorem z_alen (C : g_K G X L ad cc nL own ret lev) {k t n : Nat} {v : Int32} (ha : g_arr L k t n) (ht : t < 3) (hv : Int32.ofNat n = v) (d : decode cc pc = .ok (.arraylength, 1)) (hq : pc + 1 = q) (kk : g_Z G X L ad nL q ls (.int v :: st) σ o) : g_Z G X L ad nL pc ls (.ref (ad k) :: st) σ o := by
  subst hq
  obtain ⟨l, D, kd, adK, adV⟩ := G
  obtain ⟨p, e, R, s, m, args, below, meth, c, A⟩ := X
  obtain ⟨hx, hb, hml, hr0, hown, hts, hlk, hK, hap, hA, hRc, hRs, hRf, hRl, hStr⟩ := C
  intro r hr H locs lsA hl hP hS
  have he := g_W_get (kd := kd) (ad := ad) (σ := σ) ha.1
  rw [ha.2] at he
  rcases (show t = 0 ∨ t = 1 ∨ t = 2 by omega) with rfl | rfl | rfl
  · exact va_alen (D := D) hx hb hK hP k 0 he rfl hv d (kk r hr H locs lsA hl hP hS)
  · exact va_alen (D := D) hx hb hK hP k 1 he rfl hv d (kk r hr H locs lsA hl hP hS)
  · exact va_alen (D := D) hx hb hK hP k 2 he rfl hv d (kk r hr H locs lsA hl hP hS)
/-- fewer locals, in any order; another shape of the program -/
theorem z_sub {ls' : List (Nat × Value)} (ks : List Nat) (h : lv_pick ls ks = ls') (k : g_Z G X L ad nL pc ls' st σ o) : g_Z G X L ad nL pc ls st σ o := by
  obtain ⟨l, D, kd, adK, adV⟩ := G
  obtain ⟨p, e, R, s, m, args, below, meth, c, A⟩ := X
  intro r hr H locs lsA hl hP hS
  exact k r hr H locs lsA (lv_sub hl ks h) hP hS
theorem z_none : g_Z G X L ad nL pc ls st σ none := by
  obtain ⟨l, D, kd, adK, adV⟩ := G
  obtain ⟨p, e, R, s, m, args, below, meth, c, A⟩ := X
  intro r hr; cases hr
theorem z_leti {x : Int32} {f : Int32 → gR} (k : ∀ y, g_Z G X L ad nL pc ls (.int y :: st) σ (f y)) : g_Z G X L ad nL pc ls (.int x :: st) σ (g_leti x f) := k x
theorem z_letl {x : Int64} {f : Int64 → gR} (k : ∀ y, g_Z G X L ad nL pc ls (.long y :: st) σ (f y)) : g_Z G X L ad nL pc ls (.long x :: st) σ (g_letl x f) := k x
theorem z_lcmp (C : g_K G X L ad cc nL own ret lev) {x y : Int64} (d : decode cc pc = .ok (.lcmp, 1)) (hq : pc + 1 = q) (k : g_Z G X L ad nL q ls (.int (lg_cmp x y) :: st) σ o) : g_Z G X L ad nL pc ls (.long y :: .long x :: st) σ o := by
  subst hq
  obtain ⟨l, D, kd, adK, adV⟩ := G
  obtain ⟨p, e, R, s, m, args, below, meth, c, A⟩ := X
  intro r hr H locs lsA hl hP hS
  exact W.lcmp C.1 C.2.1 d (k r hr H locs lsA hl hP hS)
def g_mmax (x y : Int32) : Int32 := (if x < y then y else x)
theorem z_mmax (C : g_K G X L ad cc nL own ret lev) {x y : Int32} {i : Nat} (hw1 : Cond.methodLink own i Lib.Math.max.name ∈ wsL_law) (hw2 : Cond.static Lib.Math.max.name ∈ wsL_law) (hw3 : Cond.initialized "java/lang/Math" ∈ wsL_law) (hw4 : Cond.code Lib.Math.max.name Lib.Math.max.code 2 (some .int) ∈ wsL_law) (hlev : 1 ≤ lev) (hcat : (st.map fun v => v.category).sum ≤ 8) (d : decode cc pc = .ok (.invokestatic i, 3)) (hq : pc + 3 = q) (kk : g_Z G X L ad nL q ls (.int (g_mmax x y) :: st) σ o) : g_Z G X L ad nL pc ls (.int y :: .int x :: st) σ o := by
  subst hq
  obtain ⟨l, D, kd, adK, adV⟩ := G
  obtain ⟨p, e, R, s, m, args, below, meth, c, A⟩ := X
  obtain ⟨hx, hb, hml, hr0, hown, hts, hlk, hK, hap, hA, hRc, hRs, hRf, hRl, hStr⟩ := C
  intro r hr H locs lsA hl hP hS
  exact va_mmax hx hb (hml.trans hl.1.symm) hown (hts _ hw1) (hts _ hw2) (hts _ hw3) (hts _ hw4) (by omega) (by omega) (by omega) (by omega) d (kk r hr H locs lsA hl hP hS)
def g_mmin (x y : Int32) : Int32 := (if y < x then y else x)
theorem z_mmin (C : g_K G X L ad cc nL own ret lev) {x y : Int32} {i : Nat} (hw1 : Cond.methodLink own i Lib.Math.min.name ∈ wsL_law) (hw2 : Cond.static Lib.Math.min.name ∈ wsL_law) (hw3 : Cond.initialized "java/lang/Math" ∈ wsL_law) (hw4 : Cond.code Lib.Math.min.name Lib.Math.min.code 2 (some .int) ∈ wsL_law) (hlev : 1 ≤ lev) (hcat : (st.map fun v => v.category).sum ≤ 8) (d : decode cc pc = .ok (.invokestatic i, 3)) (hq : pc + 3 = q) (kk : g_Z G X L ad nL q ls (.int (g_mmin x y) :: st) σ o) : g_Z G X L ad nL pc ls (.int y :: .int x :: st) σ o := by
  subst hq
  obtain ⟨l, D, kd, adK, adV⟩ := G
  obtain ⟨p, e, R, s, m, args, below, meth, c, A⟩ := X
  obtain ⟨hx, hb, hml, hr0, hown, hts, hlk, hK, hap, hA, hRc, hRs, hRf, hRl, hStr⟩ := C
  intro r hr H locs lsA hl hP hS
  exact va_mmin hx hb (hml.trans hl.1.symm) hown (hts _ hw1) (hts _ hw2) (hts _ hw3) (hts _ hw4) (by omega) (by omega) (by omega) (by omega) d (kk r hr H locs lsA hl hP hS)
def g_mabs (x : Int32) : Int32 := (if 0 ≤ x then x else 0 - x)
theorem z_mabs (C : g_K G X L ad cc nL own ret lev) {x : Int32} {i : Nat} (hw1 : Cond.methodLink own i Lib.Math.abs.name ∈ wsL_law) (hw2 : Cond.static Lib.Math.abs.name ∈ wsL_law) (hw3 : Cond.initialized "java/lang/Math" ∈ wsL_law) (hw4 : Cond.code Lib.Math.abs.name Lib.Math.abs.code 1 (some .int) ∈ wsL_law) (hlev : 1 ≤ lev) (hcat : (st.map fun v => v.category).sum ≤ 8) (d : decode cc pc = .ok (.invokestatic i, 3)) (hq : pc + 3 = q) (kk : g_Z G X L ad nL q ls (.int (g_mabs x) :: st) σ o) : g_Z G X L ad nL pc ls (.int x :: st) σ o := by
  subst hq
  obtain ⟨l, D, kd, adK, adV⟩ := G
  obtain ⟨p, e, R, s, m, args, below, meth, c, A⟩ := X
  obtain ⟨hx, hb, hml, hr0, hown, hts, hlk, hK, hap, hA, hRc, hRs, hRf, hRl, hStr⟩ := C
  intro r hr H locs lsA hl hP hS
  exact va_mabs hx hb (hml.trans hl.1.symm) hown (hts _ hw1) (hts _ hw2) (hts _ hw3) (hts _ hw4) (by omega) (by omega) (by omega) (by omega) d (kk r hr H locs lsA hl hP hS)

/-! calls -/
def g_rm (lev : Nat) : Room := { frames := lev, cells := 0, slots := 0, locals := 40 * lev }
def g_M (G : gG) (L : gL) (ad : Nat → Nat) (y : MethodName) (cc : ByteArray) (nL : Nat) (ret : Option FieldType) (lev : Nat) (As : List Value) (σ : gS) (o : gR) : Prop :=
  match G with
  | (l, D, kd, adK, adV) => ∀ r, o = some r → ∀ sz, Met l y (Cond.code y cc nL ret :: wsL_law) (g_rm lev) (va_Pc As (fun U => U.heap.size = sz ∧ va_P D vwCl (g_W L kd ad σ) U.heap ∧ va_K D vwCl (g_tys kd) U ∧ g_Str adK adV (g_A L ad sz) U U.heap)) (g_Q L ad D kd (g_A L ad sz) r) 0 0 (g_A L ad sz)
theorem g_entry {y : MethodName} {As : List Value} (hy : plainName y.cls = true) (hap : g_ap L ad) (hlen : (lg_sl As).length ≤ nL) (ls0 : List (Nat × Value)) (hls : lv_args 0 As = ls0) (h : ∀ X, g_K G X L ad cc nL y.cls ret lev → g_Z G X L ad nL 0 ls0 [] σ o) : g_M G L ad y cc nL ret lev As σ o := by
  subst hls
  obtain ⟨l, D, kd, adK, adV⟩ := G
  intro r hr sz
  refine Met.ofW (cc := cc) (maxL := nL) (ret := ret) hy rfl ?_
  intro p e s m args below meth c s₁ B hml hv
  obtain ⟨rfl, hsz, hP, hK, hStr⟩ := hv
  subst hsz
  have hts := atoms_spec (ws := Cond.code y cc nL ret :: wsL_law) B.pre
  have hown : s.vm.findClass y.cls = some m.cls := findClass_of_methodNamed B.named
  have hl := lv_entry As (n := nL) hlen
  rw [lg_entry_eq]
  exact h (p, e, (headSpec (Cond.code y cc nL ret :: wsL_law) (g_rm lev)).room, s, m, As.toArray, below, meth, c, g_A L ad s.heap.size) ⟨B.exec, B.bytes, hml, B.returns, hown, fun w hw => hts w (List.mem_cons_of_mem _ hw), B.notSynchronized, hK, hap, rfl, rfl, rfl, Nat.le_refl _, Nat.le_refl _, hStr⟩ r hr s.heap [] _ hl hP va_S.rf
def g_L (own : String) (idx : Nat) (y : MethodName) (cy : ByteArray) (nLy : Nat) (rety : Option FieldType) (n : Nat) : Prop :=
  Cond.code y cy nLy rety ∈ wsL_law ∧ Cond.methodLink own idx y ∈ wsL_law ∧ Cond.initialized y.cls ∈ wsL_law ∧ y.cls ≠ "java/lang/invoke/MethodHandle" ∧ y.cls ≠ "java/lang/invoke/VarHandle" ∧ (parseMethodDescriptor y.desc).map (fun d => d.parameters.length) = some n
theorem g_callB {R : Room} {s : State} {args : Array Value} {idx nLy n levy : Nat} {y : MethodName} {cy : ByteArray} {rety : Option FieldType} (hL : g_L own idx y cy nLy rety n) (hts : ∀ w ∈ wsL_law, w.before args s = true) (h1 : levy + 1 ≤ R.frames) (h2 : 8 + (nLy + 11) + 40 * levy ≤ R.locals) : CallB R s args own idx y cy nLy rety (Cond.code y cy nLy rety :: wsL_law) (g_rm levy) 0 0 n :=
  callB_of n hts (fun w h => (List.mem_cons.mp h).elim (fun e => e ▸ g_good _ hL.1) (g_good w)) rfl rfl rfl (hts _ hL.2.2.1) (hts _ hL.2.1) hL.2.2.2 ⟨h1, h2⟩
theorem g_after {p : Program} {l : Launch} {e : Env} {R : Room} {s : State} {m : MethodId} {args : Array Value} {below : List Frame} {meth : Method} {c : Code} {H : Heap} {locs : List Loc} {Q : State → Prop} {lsA : Array Slot} {st0 rest : List Value} {D : va_G} {kd : Nat → ClassId} {A A1 : Nat → Prop} {r1 : Option Value × gS} {a : Array Value}
    (hr : va_Run p l e R s m args below meth c H locs 0 0 0 0 (F0 m pc lsA st0) rest (g_Q L ad D kd A1 r1 a) A1) (hS : va_S A s.heap H locs) (hA1 : ∀ q, A1 q → A q)
    (kk : ∀ (H1 : Heap) (locs1 : List Loc), va_P D vwCl (g_W L kd ad r1.2) H1 → va_S A s.heap H1 locs1 → W p l e R s m args below meth c H1 locs1 0 0 Q (F0 m (pc + 3) lsA (r1.1.toList ++ rest))) : W p l e R s m args below meth c H locs 0 0 Q (F0 m pc lsA st0) := by
  intro T hT X
  obtain ⟨v, st₀, t, T', L', h0, X', hL, e1, e2, ⟨⟨hv, hB, hKt⟩, hz, hk⟩, st⟩ := hr T hT X
  cases hv
  rw [h0] at hz hk
  obtain ⟨t2, a1, b1⟩ := kk T'.heap (locs ++ L') (by rw [e1]; exact hB)
    ⟨Nat.le_trans hS.1 (by rw [e1]; exact hz), fun q h1 h2 => by rw [e1, hk q (Nat.lt_of_lt_of_le h1 hS.1) (fun z => h2 (hA1 q z))]; exact hS.2.1 q h1 h2, fun q hq => by
      rcases List.mem_append.mp hq with h | h
      · exact hS.2.2 q h
      · exact hA1 _ (hL q h)⟩ T' rfl X'
  exact ⟨t2, st t2 a1, b1⟩
theorem g_A_mono {sz sz' : Nat} (h : sz ≤ sz') : ∀ q, g_A L ad sz' q → g_A L ad sz q := fun q hq => hq.elim Or.inl (fun h2 => Or.inr (Nat.le_trans h h2))
theorem g_Str_at {adK adV : Nat → Nat} {A A' : Nat → Prop} {s U : State} {H : Heap} {locs : List Loc} (h : g_Str adK adV A s s.heap) (hS : va_S A s.heap H locs) (hA : ∀ q, A' q → A q) (hU : U.heap = H) (hW : s.WarmedH U.vm) : g_Str adK adV A' U U.heap := by
  rw [hU]
  exact ⟨⟨vk_S.narrow (vk_S.moved hW.alike (vk_S.kept h.1.1 hS.2.1)) hA, va_Z.narrow (va_Z.moved hW.alike (va_Z.kept h.1.2.1 hS.2.1)) hA, va_Zq.narrow (va_Zq.moved hW.alike (va_Zq.kept h.1.2.2 hS.2.1)) hA⟩, fun i hi => (h.2.1 i hi).warm hW, h.2.2.1.warmM hW, fun q hq => (h.2.2.2 q hq).warmF hW⟩
theorem g_blind {D : va_G} {kd : Nat → ClassId} {adK adV : Nat → Nat} {A : Nat → Prop} {sz : Nat} {As : List Value} : FrameBlind (va_Pc As (fun U => U.heap.size = sz ∧ va_P D vwCl (g_W L kd ad σ) U.heap ∧ va_K D vwCl (g_tys kd) U ∧ g_Str adK adV A U U.heap)) := by
  intro a U g mk h
  obtain ⟨q0, q1, q2, q3, q4, q5, q6, q7⟩ := h
  exact ⟨q0, q1, q2, va_K.moved (u := U) (U := U.calling g mk a) (Vm.Alike.refl U.vm) q3, ⟨vk_S.moved (u := U) (U := U.calling g mk a) (Vm.Alike.refl U.vm) q4.1, va_Z.moved (u := U) (U := U.calling g mk a) (Vm.Alike.refl U.vm) q4.2.1, va_Zq.moved (u := U) (U := U.calling g mk a) (Vm.Alike.refl U.vm) q4.2.2⟩, fun i hi => vk_R.same (u := U) (U := U.calling g mk a) rfl (q5 i hi), va_Nw.same (u := U) (U := U.calling g mk a) rfl rfl q6, fun q hq => va_Nw.same (u := U) (U := U.calling g mk a) rfl rfl (q7 q hq)⟩
def g_bind (o : gR) (f : Option Value → gS → gR) : gR := match o with
  | none => none
  | some r => f r.1 r.2
def g_ki (f : Int32 → gS → gR) : Option Value → gS → gR
  | some (.int x), σ => f x σ
  | _, _ => none
def g_kv (f : gS → gR) : Option Value → gS → gR
  | none, σ => f σ
  | _, _ => none
theorem z_callV (C : g_K G X L ad cc nL own ret lev) {y : MethodName} {cy : ByteArray} {nLy levy n idx b ci N : Nat} {T : u_T} {rety : Option FieldType} {fs : List (Option Nat)} {st0 : List Value} (As : List Value) {f : Option Value → gS → gR}
    (hL : g_L own idx y cy nLy rety n) (hLV : Cond.instanceMethod y ∈ wsL_law ∧ Cond.selects y.cls y y ∈ wsL_law) (ho : g_obj L b ci fs) (hc : vwCl[ci]? = some (y.cls, T, N)) (hM : g_M G L ad y cy nLy rety levy (.ref (ad b) :: As) σ o1) (hn : As.length = n) (hst : st0 = As.reverse ++ .ref (ad b) :: st) (hcat : (st.map fun v => v.category).sum ≤ 8) (hlev : levy + 1 ≤ lev ∧ 8 + (nLy + 11) + 40 * levy ≤ 40 * lev)
    (d : decode cc pc = .ok (.invokevirtual idx, 3)) (hq : pc + 3 = q) (k : ∀ v σ', g_Z G X L ad nL q ls (v.toList ++ st) σ' (f v σ')) : g_Z G X L ad nL pc ls st0 σ (g_bind o1 f) := by
  subst hq
  subst hst
  obtain ⟨l, D, kd, adK, adV⟩ := G
  obtain ⟨p, e, R, s, m, args, below, meth, c, A⟩ := X
  obtain ⟨hx, hb, hml, hr0, hown, hts, hlk, hK, hap, hA, hRc, hRs, hRf, hRl, hStr⟩ := C
  intro r hr H locs lsA hl hP hS
  cases ho1 : o1 with
  | none => rw [ho1] at hr; cases hr
  | some r1 =>
    rw [ho1] at hr
    have he := g_W_get (kd := kd) (ad := ad) (σ := σ) ho.1
    rw [ho.2] at he
    have hmono : ∀ q, g_A L ad H.size q → A q := by rw [hA]; exact g_A_mono hS.1
    refine g_after (va_runV (As := As) (rest := st) ⟨hx, hb, hml, hown, hts⟩ (hM r1 ho1 H.size) ⟨g_callB hL hts (by omega) (by omega), hts _ hLV.1, hts _ hLV.2⟩ ⟨g_blind, va_recv (D := D) hK hP hc he, fun U hU hW => ⟨rfl, by rw [hU], by rw [hU]; exact hP, va_K.moved hW.alike hK, g_Str_at hStr hS hmono hU hW⟩⟩ rfl hn hl.1 rfl (lv_room hcat) d ⟨by omega, by omega⟩) hS hmono (fun H1 locs1 hP1 hS1 => ?_)
    exact k r1.1 r1.2 r hr H1 locs1 lsA hl hP1 hS1
theorem z_callS (C : g_K G X L ad cc nL own ret lev) {y : MethodName} {cy : ByteArray} {nLy levy n idx : Nat} {rety : Option FieldType} {st0 : List Value} (As : List Value) {f : Option Value → gS → gR}
    (hL : g_L own idx y cy nLy rety n) (hLS : Cond.static y ∈ wsL_law) (hM : g_M G L ad y cy nLy rety levy As σ o1) (hn : As.length = n) (hst : st0 = As.reverse ++ st) (hcat : (st.map fun v => v.category).sum ≤ 8) (hlev : levy + 1 ≤ lev ∧ 8 + (nLy + 11) + 40 * levy ≤ 40 * lev)
    (d : decode cc pc = .ok (.invokestatic idx, 3)) (hq : pc + 3 = q) (k : ∀ v σ', g_Z G X L ad nL q ls (v.toList ++ st) σ' (f v σ')) : g_Z G X L ad nL pc ls st0 σ (g_bind o1 f) := by
  subst hq
  subst hst
  obtain ⟨l, D, kd, adK, adV⟩ := G
  obtain ⟨p, e, R, s, m, args, below, meth, c, A⟩ := X
  obtain ⟨hx, hb, hml, hr0, hown, hts, hlk, hK, hap, hA, hRc, hRs, hRf, hRl, hStr⟩ := C
  intro r hr H locs lsA hl hP hS
  cases ho1 : o1 with
  | none => rw [ho1] at hr; cases hr
  | some r1 =>
    rw [ho1] at hr
    have hmono : ∀ q, g_A L ad H.size q → A q := by rw [hA]; exact g_A_mono hS.1
    refine g_after (va_runS (As := As) (rest := st) ⟨hx, hb, hml, hown, hts⟩ (hM r1 ho1 H.size) ⟨g_callB hL hts (by omega) (by omega), hts _ hLS⟩ ⟨g_blind, fun U hU hW => ⟨rfl, by rw [hU], by rw [hU]; exact hP, va_K.moved hW.alike hK, g_Str_at hStr hS hmono hU hW⟩⟩ rfl hn hl.1 rfl (lv_room hcat) d ⟨by omega, by omega⟩) hS hmono (fun H1 locs1 hP1 hS1 => ?_)
    exact k r1.1 r1.2 r hr H1 locs1 lsA hl hP1 hS1
theorem z_callN (C : g_K G X L ad cc nL RX8 ret lev) {nLy levy : Nat} {st0 : List Value} (As : List Value) {f : Option Value → gS → gR}
    (hc0 : Cond.code yX9_sown cX9_sown nLy (some .int) ∈ wsL_law) (hLS : Cond.static yX9_sown ∈ wsL_law) (hini : Cond.initialized RX9 ∈ wsL_law) (hM : g_M G L ad yX9_sown cX9_sown nLy (some .int) levy As σ o1) (hn : As.length = 2) (hst : st0 = As.reverse ++ st) (hcat : (st.map fun v => v.category).sum ≤ 8) (hlev : levy + 1 ≤ lev ∧ 8 + (nLy + 11) + 40 * levy ≤ 40 * lev)
    (d : decode cc pc = .ok (.invokestatic 77, 3)) (hq : pc + 3 = q) (k : ∀ v σ', g_Z G X L ad nL q ls (v.toList ++ st) σ' (f v σ')) : g_Z G X L ad nL pc ls st0 σ (g_bind o1 f) := by
  subst hq
  subst hst
  obtain ⟨l, D, kd, adK, adV⟩ := G
  obtain ⟨p, e, R, s, m, args, below, meth, c, A⟩ := X
  obtain ⟨hx, hb, hml, hr0, hown, hts, hlk, hK, hap, hA, hRc, hRs, hRf, hRl, hStr⟩ := C
  intro r hr H locs lsA hl hP hS
  cases ho1 : o1 with
  | none => rw [ho1] at hr; cases hr
  | some r1 =>
    rw [ho1] at hr
    have hmono : ∀ q, g_A L ad H.size q → A q := by rw [hA]; exact g_A_mono hS.1
    refine g_after (va_runSN (As := As) (rest := st) ⟨hx, hb, hml, hown, hts⟩ (hM r1 ho1 H.size) ⟨va_cnB (rm := g_rm levy) (mc := 0) (ms := 0) 2 hts (fun w h => (List.mem_cons.mp h).elim (fun e => e ▸ g_good _ hc0) (g_good w)) rfl rfl rfl hStr.2.2.1 (hts _ hini) ⟨by decide, by decide, by decide +kernel⟩ ⟨by show levy + 1 ≤ _; omega, by show 8 + (nLy + 11) + 40 * levy ≤ _; omega⟩, hts _ hLS, trivial⟩ ⟨g_blind, fun U hU hW => ⟨rfl, by rw [hU], by rw [hU]; exact hP, va_K.moved hW.alike hK, g_Str_at hStr hS hmono hU hW⟩⟩ rfl hn hl.1 rfl (lv_room hcat) d ⟨by omega, by omega⟩) hS hmono (fun H1 locs1 hP1 hS1 => ?_)
    exact k r1.1 r1.2 r hr H1 locs1 lsA hl hP1 hS1
theorem z_ki {f : Int32 → gS → gR} (k : ∀ x σ', g_Z G X L ad nL pc ls (.int x :: st) σ' (f x σ')) : ∀ v σ', g_Z G X L ad nL pc ls (v.toList ++ st) σ' (g_ki f v σ') := by
  intro v σ'
  cases v with
  | none => exact z_none
  | some w => cases w with
    | int x => exact k x σ'
    | _ => exact z_none
theorem z_kv {f : gS → gR} (k : ∀ σ', g_Z G X L ad nL pc ls st σ' (f σ')) : ∀ v σ', g_Z G X L ad nL pc ls (v.toList ++ st) σ' (g_kv f v σ') := by
  intro v σ'
  cases v with
  | none => exact k σ'
  | some w => exact z_none

end GROWS
