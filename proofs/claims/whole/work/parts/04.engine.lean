/-! THE ENGINE: an abstract heap, a symbolic machine over it (e_exec), and what it means over the machine of the kit (e_Wm, e_Sc) -/
abbrev e_Cl : Type := (Nat × (Nat → Value)) ⊕ (Nat × Nat × (Nat → Int32)) ⊕ (Nat × Nat × (Nat → Option Nat)) ⊕ (List Nat × Nat)
/-- cells by their addresses; how many cells there are in all; how many slots -/
abbrev e_Hp : Type := (Nat → Option e_Cl) × Nat × Nat
abbrev e_O (ci : Nat) (V : Nat → Value) : e_Cl := .inl (ci, V)
abbrev e_I (t n : Nat) (f : Nat → Int32) : e_Cl := .inr (.inl (t, n, f))
abbrev e_R (t n : Nat) (f : Nat → Option Nat) : e_Cl := .inr (.inr (.inl (t, n, f)))
abbrev e_L (xs : List Nat) (cap : Nat) : e_Cl := .inr (.inr (.inr (xs, cap)))
def e_wr (h : e_Hp) (a : Nat) (c : e_Cl) : e_Hp := (va_up h.1 a (some c), h.2)
def e_al (h : e_Hp) (c : e_Cl) (k : Nat) : e_Hp := (va_up h.1 h.2.1 (some c), h.2.1 + 1, h.2.2 + k)
abbrev e_G : Type := Launch × State × va_G × (Nat → ClassId) × (Nat → Nat)
def e_ty : Nat → FieldType
  | 0 => .int
  | 1 => .boolean
  | 2 => .object "HoldHouse$Thing"
  | 3 => .object "HoldHouse$Spot"
  | _ => .object "java/lang/Object"
/-- the class of the elements of an array of references, by its kind -/
def e_ec : Nat → Nat
  | 2 => 11
  | _ => 9
def e_B (g : e_G) : Nat := g.2.1.heap.size
def e_at (g : e_G) (ar : Nat → Nat) (a : Nat) (c : e_Cl) (H : Heap) : Prop := match c with
  | .inl o => ∃ r : vw_C, vwCl[o.1]? = some r ∧ t_OB a (g.2.2.1.1 o.1) r.2.2 (g.2.2.1.2 o.1) H o.2
  | .inr (.inl x) => H[a]? = some (arrV (g.2.2.2.1 x.1) x.2.1 (fun j => .int (x.2.2 j)))
  | .inr (.inr (.inl x)) => H[a]? = some (arrV (g.2.2.2.1 x.1) x.2.1 (fun j => va_rf (x.2.2 j)))
  | .inr (.inr (.inr x)) => ∃ z : Int32, t_OB a (g.2.2.1.1 0) 3 (g.2.2.1.2 0) H (vp_V [.int z, .ref (if x.2 = 0 then g.2.2.2.2 0 else ar a), .int (nI x.1.length)]) ∧ x.1.length ≤ x.2 ∧ (x.2 = 0 ∨ H[ar a]? = some (arrV (g.2.2.2.1 4) x.2 (fun j => va_rf x.1[j]?)))
def e_rep (g : e_G) (h : e_Hp) (H : Heap) : Prop := H.size = h.2.1 ∧ ∃ ar : Nat → Nat, (∀ (a : Nat) (c : e_Cl), h.1 a = some c → e_B g ≤ a ∧ e_at g ar a c H) ∧
  ∀ (a : Nat) (xs : List Nat) (cap : Nat), h.1 a = some (e_L xs cap) → cap ≠ 0 → e_B g ≤ ar a ∧ h.1 (ar a) = none ∧ ∀ (b : Nat) (ys : List Nat) (cap' : Nat), h.1 b = some (e_L ys cap') → cap' ≠ 0 → ar b = ar a → b = a
/-- the state as the abstract heap has it -/
def e_ok (g : e_G) (h : e_Hp) (U : State) : Prop := g.2.1.vm.Alike U.vm ∧ (∀ q : Nat, q < e_B g → U.heap[q]? = g.2.1.heap[q]?) ∧ e_rep g h U.heap
def e_nest : List Cond := lw_tbl.filter (fun w => match w with | .methodLinkNest .. => true | _ => false)
def e_tb : List Cond := lw_tbl.filter goodWord
def e_ws (k : Nat) : List Cond := .code (e_y k) (e_c k) (e_mL k) (e_rt k) :: e_tb
def e_rm (k mc ms : Nat) : Room := { frames := e_fr k, cells := mc, slots := ms, locals := e_lo k }
abbrev e_Q : Type := Option Value → e_Hp → Prop
abbrev e_Lv : Type := List (Option Value)
abbrev e_J : Type := Nat → e_Lv → List Value → e_Hp → Prop
abbrev e_K : Type := e_Lv → List Value → e_Hp → Prop
def e_Pm (g : e_G) (h : e_Hp) (U : State) : Prop := e_ok g h U ∧ ∀ w ∈ e_nest, va_Nw w U
def e_Qm (g : e_G) (r : Option Value) (h : e_Hp) : Array Value → State → Outcome → State → Prop := fun _ _ o t => o = .returned r ∧ e_ok g h t
/-- a call of method k: it returns, and what it answers and leaves is as Ψ says -/
def e_Sc (g : e_G) (k : Nat) (av : List Value) (h : e_Hp) (Ψ : e_Q) : Prop :=
  ∃ (r : Option Value) (h' : e_Hp), Ψ r h' ∧ h.2.1 ≤ h'.2.1 ∧ h.2.2 ≤ h'.2.2 ∧
    Met g.1 (e_y k) (e_ws k) (e_rm k (h'.2.1 - h.2.1) (h'.2.2 - h.2.2)) (va_Pc av (e_Pm g h)) (e_Qm g r h') (h'.2.1 - h.2.1) (h'.2.2 - h.2.2) (fun q => e_B g ≤ q)
theorem e_Sc.mono {g : e_G} {k : Nat} {av : List Value} {h : e_Hp} {Ψ Φ : e_Q} (hs : e_Sc g k av h Ψ) (hi : ∀ r h', Ψ r h' → Φ r h') : e_Sc g k av h Φ := by
  obtain ⟨r, h', a, b⟩ := hs
  exact ⟨r, h', hi r h' a, b⟩
/-- locals -/
def e_as (lv : e_Lv) : List (Nat × Value) := (List.range lv.length).filterMap (fun i => match lv[i]? with | some (some v) => some (i, v) | _ => none)
theorem e_as_mem {lv : e_Lv} {i : Nat} {v : Value} : (i, v) ∈ e_as lv ↔ lv[i]? = some (some v) := by
  unfold e_as
  rw [List.mem_filterMap]
  constructor
  · rintro ⟨j, -, hj⟩
    split at hj
    · rename_i w hw
      cases hj
      exact hw
    · cases hj
  · intro h
    refine ⟨i, List.mem_range.mpr (List.getElem?_eq_some_iff.mp h).1, ?_⟩
    rw [h]
def e_lv (ls : Array Slot) (nL : Nat) (lv : e_Lv) : Prop := lv_has ls nL (e_as lv) ∧ lv.length = nL
theorem e_lv.at {ls : Array Slot} {nL : Nat} {lv : e_Lv} (h : e_lv ls nL lv) {i : Nat} {v : Value} (hi : lv[i]? = some (some v)) : ls[i]? = some (.val v) := h.1.2.2 (i, v) (e_as_mem.mpr hi)
def e_cl (w : Option Value) : Option Value := match w with
  | some (.long _) => none
  | some (.double _) => none
  | w => w
theorem e_cl_some {w : Option Value} {v : Value} (h : e_cl w = some v) : w = some v ∧ v.category = 1 := by
  unfold e_cl at h
  split at h
  · cases h
  · cases h
  · rename_i n1 n2
    subst h
    refine ⟨rfl, ?_⟩
    cases v with
    | long x => exact absurd rfl (n1 x)
    | double x => exact absurd rfl (n2 x)
    | _ => rfl
def e_st1 (lv : e_Lv) (i : Nat) (v : Value) : e_Lv := match i with
  | 0 => lv.set 0 (some v)
  | j + 1 => (lv.modify j e_cl).set (j + 1) (some v)
def e_st2 (lv : e_Lv) (i : Nat) (v : Value) : e_Lv := (e_st1 lv i v).set (i + 1) none
theorem e_st1_len (lv : e_Lv) (i : Nat) (v : Value) : (e_st1 lv i v).length = lv.length := by
  cases i <;> simp [e_st1]
theorem e_st1_get {lv : e_Lv} {i j : Nat} {v w : Value} (h : (e_st1 lv i v)[j]? = some (some w)) : (j = i ∧ w = v) ∨ (j ≠ i ∧ lv[j]? = some (some w) ∧ ¬ (j + 1 = i ∧ w.category = 2)) := by
  cases i with
  | zero =>
    by_cases hj : j = 0
    · subst hj
      simp only [e_st1, List.getElem?_set] at h
      split at h
      · split at h
        · cases h; exact Or.inl ⟨rfl, rfl⟩
        · cases h
      · exact absurd trivial (by assumption)
    · simp only [e_st1] at h
      rw [List.getElem?_set_ne (Ne.symm hj)] at h
      exact Or.inr ⟨hj, h, fun q => by omega⟩
  | succ i =>
    by_cases hj : j = i + 1
    · subst hj
      simp only [e_st1, List.getElem?_set] at h
      split at h
      · split at h
        · cases h; exact Or.inl ⟨rfl, rfl⟩
        · cases h
      · exact absurd trivial (by assumption)
    · simp only [e_st1] at h
      rw [List.getElem?_set_ne (Ne.symm hj), List.getElem?_modify] at h
      by_cases hji : i = j
      · subst hji
        cases hx : lv[i]? with
        | none => simp [hx] at h
        | some x =>
          simp [hx] at h
          obtain ⟨a, b⟩ := e_cl_some h
          subst a
          exact Or.inr ⟨hj, rfl, fun q => by omega⟩
      · cases hx : lv[j]? with
        | none => simp [hx] at h
        | some x =>
          simp [hx, hji] at h
          subst h
          exact Or.inr ⟨hj, rfl, fun q => by omega⟩
theorem e_lv.st1 {ls : Array Slot} {nL : Nat} {lv : e_Lv} {i : Nat} {v : Value} (h : e_lv ls nL lv) {ls' : Array Slot} (h' : lv_has ls' nL ((i, v) :: (e_as lv).filter (fun q => !(q.1 == i) && !(q.1 + 1 == i && q.2.category == 2)))) : e_lv ls' nL (e_st1 lv i v) := by
  refine ⟨⟨h'.1, h'.2.1, fun q hq => ?_⟩, by rw [e_st1_len]; exact h.2⟩
  obtain ⟨j, w⟩ := q
  rcases e_st1_get (e_as_mem.mp hq) with ⟨rfl, rfl⟩ | ⟨a, b, c⟩
  · exact h'.2.2 _ List.mem_cons_self
  · refine h'.2.2 (j, w) (List.mem_cons_of_mem _ (List.mem_filter.mpr ⟨e_as_mem.mpr b, ?_⟩))
    simp only [Bool.and_eq_true, Bool.not_eq_true', beq_eq_false_iff_ne, ne_eq, Bool.and_eq_false_iff]
    refine ⟨a, ?_⟩
    by_cases z : j + 1 = i
    · exact Or.inr (fun y => c ⟨z, y⟩)
    · exact Or.inl z
theorem e_lv.st2 {ls : Array Slot} {nL : Nat} {lv : e_Lv} {i : Nat} {v : Value} (h : e_lv ls nL lv) {ls' : Array Slot} (h' : lv_has ls' nL ((i, v) :: (e_as lv).filter (fun q => !(q.1 == i) && (!(q.1 == i + 1) && !(q.1 + 1 == i && q.2.category == 2))))) : e_lv ls' nL (e_st2 lv i v) := by
  refine ⟨⟨h'.1, h'.2.1, fun q hq => ?_⟩, by unfold e_st2; rw [List.length_set, e_st1_len]; exact h.2⟩
  obtain ⟨j, w⟩ := q
  have h0 := e_as_mem.mp hq
  unfold e_st2 at h0
  have hne : j ≠ i + 1 := by
    intro z
    subst z
    rw [List.getElem?_set] at h0
    split at h0
    · split at h0 <;> cases h0
    · exact absurd rfl (by assumption)
  rw [List.getElem?_set_ne (Ne.symm hne)] at h0
  rcases e_st1_get h0 with ⟨rfl, rfl⟩ | ⟨a, b, c⟩
  · exact h'.2.2 _ List.mem_cons_self
  · refine h'.2.2 (j, w) (List.mem_cons_of_mem _ (List.mem_filter.mpr ⟨e_as_mem.mpr b, ?_⟩))
    simp only [Bool.and_eq_true, Bool.not_eq_true', beq_eq_false_iff_ne, ne_eq, Bool.and_eq_false_iff]
    refine ⟨a, hne, ?_⟩
    by_cases z : j + 1 = i
    · exact Or.inr (fun y => c ⟨z, y⟩)
    · exact Or.inl z
/-- a method's own context -/
def e_mc (g : e_G) (k : Nat) (p : Program) (s : State) (m : MethodId) (args : Array Value) (meth : Method) (c : Code) : Prop :=
  p.tables.exec = Jvm.exec ∧ c.code = e_c k ∧ c.maxLocals = e_mL k ∧ meth.sig.returnType = e_rt k ∧ s.vm.findClass (e_y k).cls = some m.cls ∧ (∀ w ∈ e_ws k, w.before args s = true) ∧ meth.locks = false ∧ meth.name = (e_y k).name ∧ g.2.1.vm.Alike s.vm ∧ (∀ w ∈ e_nest, va_Nw w s) ∧ (∀ q : Nat, q < e_B g → s.heap[q]? = g.2.1.heap[q]?) ∧ e_B g ≤ s.heap.size
/-- within a method: from here it returns, and what it answers and leaves is as Ψ says -/
def e_Wm (g : e_G) (k : Nat) (Ψ : e_Q) (pc : Nat) (lv : e_Lv) (st : List Value) (h : e_Hp) : Prop :=
  ∃ (r : Option Value) (h' : e_Hp), Ψ r h' ∧ h.2.1 ≤ h'.2.1 ∧ h.2.2 ≤ h'.2.2 ∧
    ∀ (u0 : Nat), u0 ≤ h.2.2 → ∀ (p : Program) (e : Env) (s : State) (m : MethodId) (args : Array Value) (below : List Frame) (meth : Method) (c : Code) (H : Heap) (locs : List Loc) (ls : Array Slot),
      e_mc g k p s m args meth c → s.heap.size ≤ h.2.1 → (∀ q ∈ locs, e_B g ≤ q.base) → (∀ q : Nat, q < e_B g → H[q]? = g.2.1.heap[q]?) → e_rep g h H → e_lv ls (e_mL k) lv →
      W p g.1 e (e_rm k (h'.2.1 - s.heap.size) (h'.2.2 - u0)) s m args below meth c H locs (h.2.1 - s.heap.size) (h.2.2 - u0) (MQ below (e_Qm g r h') args s (h'.2.1 - s.heap.size) (h'.2.2 - u0) (fun q => e_B g ≤ q)) (F0 m pc ls st)
/-- a step that leaves the heap -/
theorem e_pure {g : e_G} {k : Nat} {Ψ : e_Q} {pc pc' : Nat} {lv lv' : e_Lv} {st st' : List Value} {h : e_Hp}
    (hstep : ∀ {p : Program} {e : Env} {s : State} {m : MethodId} {args : Array Value} {below : List Frame} {meth : Method} {c : Code} {H : Heap} {locs : List Loc} {ls : Array Slot} {R : Room} {cells slots : Nat} {Q : State → Prop}, e_mc g k p s m args meth c → e_lv ls (e_mL k) lv →
      (∀ ls' : Array Slot, e_lv ls' (e_mL k) lv' → W p g.1 e R s m args below meth c H locs cells slots Q (F0 m pc' ls' st')) → W p g.1 e R s m args below meth c H locs cells slots Q (F0 m pc ls st))
    (hk : e_Wm g k Ψ pc' lv' st' h) : e_Wm g k Ψ pc lv st h := by
  obtain ⟨r, h', h1, h2, h3, h4⟩ := hk
  refine ⟨r, h', h1, h2, h3, ?_⟩
  intro u0 hu p e s m args below meth c H locs ls hm hs hl hb hr hv
  exact hstep hm hv (fun ls' hv' => h4 u0 hu p e s m args below meth c H locs ls' hm hs hl hb hr hv')
/-- the entry of a method -/
def e_in : List Value → Nat → e_Lv
  | [], n => List.replicate n none
  | v :: vs, n => match v with
    | .long x => some (.long x) :: none :: e_in vs (n - 2)
    | .double x => some (.double x) :: none :: e_in vs (n - 2)
    | v => some v :: e_in vs (n - 1)
