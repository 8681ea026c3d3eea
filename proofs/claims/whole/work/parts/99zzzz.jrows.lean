/-! lists of the library: the judgement over any method, its rows -/
abbrev j_M : Type := (MethodName × ByteArray × Nat × Option FieldType) × Nat × Nat
def j_ws (M : j_M) : List Cond := .code M.1.1 M.1.2.1 M.1.2.2.1 M.1.2.2.2 :: e_tb
def j_rm (M : j_M) (mc ms : Nat) : Room := { frames := M.2.1, cells := mc, slots := ms, locals := M.2.2 }
def j_Sc (g : e_G) (M : j_M) (av : List Value) (h : e_Hp) (Ψ : e_Q) : Prop :=
  ∃ (r : Option Value) (h' : e_Hp), Ψ r h' ∧ h.2.1 ≤ h'.2.1 ∧ h.2.2 ≤ h'.2.2 ∧
    Met g.1 M.1.1 (j_ws M) (j_rm M (h'.2.1 - h.2.1) (h'.2.2 - h.2.2)) (va_Pc av (e_Pm g h)) (e_Qm g r h') (h'.2.1 - h.2.1) (h'.2.2 - h.2.2) (fun q => e_B g ≤ q)
def j_mc (g : e_G) (M : j_M) (p : Program) (s : State) (m : MethodId) (args : Array Value) (meth : Method) (c : Code) : Prop :=
  p.tables.exec = Jvm.exec ∧ c.code = M.1.2.1 ∧ c.maxLocals = M.1.2.2.1 ∧ meth.sig.returnType = M.1.2.2.2 ∧ s.vm.findClass M.1.1.cls = some m.cls ∧ (∀ w ∈ j_ws M, w.before args s = true) ∧ meth.locks = false ∧ meth.name = M.1.1.name ∧ g.2.1.vm.Alike s.vm ∧ (∀ w ∈ e_nest, va_Nw w s) ∧ (∀ q : Nat, q < e_B g → s.heap[q]? = g.2.1.heap[q]?) ∧ e_B g ≤ s.heap.size
def j_Wm (g : e_G) (M : j_M) (Ψ : e_Q) (pc : Nat) (lv : e_Lv) (st : List Value) (h : e_Hp) : Prop :=
  ∃ (r : Option Value) (h' : e_Hp), Ψ r h' ∧ h.2.1 ≤ h'.2.1 ∧ h.2.2 ≤ h'.2.2 ∧
    ∀ (u0 : Nat), u0 ≤ h.2.2 → ∀ (p : Program) (e : Env) (s : State) (m : MethodId) (args : Array Value) (below : List Frame) (meth : Method) (c : Code) (H : Heap) (locs : List Loc) (ls : Array Slot),
      j_mc g M p s m args meth c → s.heap.size ≤ h.2.1 → (∀ q ∈ locs, e_B g ≤ q.base) → (∀ q : Nat, q < e_B g → H[q]? = g.2.1.heap[q]?) → e_rep g h H → e_lv ls M.1.2.2.1 lv →
      W p g.1 e (j_rm M (h'.2.1 - s.heap.size) (h'.2.2 - u0)) s m args below meth c H locs (h.2.1 - s.heap.size) (h.2.2 - u0) (MQ below (e_Qm g r h') args s (h'.2.1 - s.heap.size) (h'.2.2 - u0) (fun q => e_B g ≤ q)) (F0 m pc ls st)
section JA
variable {g : e_G} {M : j_M} {Ψ : e_Q} {pc : Nat} {lv : e_Lv} {st : List Value} {h : e_Hp}
theorem j_mc.K {p : Program} {s : State} {m : MethodId} {args : Array Value} {meth : Method} {c : Code} (hg : e_GK g) (hm : j_mc g M p s m args meth c) : va_K g.2.2.1 vwCl (e_tys g) s := va_K.moved hm.2.2.2.2.2.2.2.2.1 hg.1
theorem j_mc.w {p : Program} {s : State} {m : MethodId} {args : Array Value} {meth : Method} {c : Code} (hm : j_mc g M p s m args meth c) {w : Cond} (h : w ∈ e_tb) : w.before args s = true := hm.2.2.2.2.2.1 w (List.mem_cons_of_mem _ h)
theorem j_mc.own {own : String} {p : Program} {s : State} {m : MethodId} {args : Array Value} {meth : Method} {c : Code} (ho : M.1.1.cls = own) (hm : j_mc g M p s m args meth c) : s.vm.findClass own = some m.cls := by rw [← ho]; exact hm.2.2.2.2.1
theorem j_pure {pc' : Nat} {lv' : e_Lv} {st' : List Value}
    (hstep : ∀ {p : Program} {e : Env} {s : State} {m : MethodId} {args : Array Value} {below : List Frame} {meth : Method} {c : Code} {H : Heap} {locs : List Loc} {ls : Array Slot} {R : Room} {cells slots : Nat} {Q : State → Prop}, j_mc g M p s m args meth c → e_lv ls M.1.2.2.1 lv →
      (∀ ls' : Array Slot, e_lv ls' M.1.2.2.1 lv' → W p g.1 e R s m args below meth c H locs cells slots Q (F0 m pc' ls' st')) → W p g.1 e R s m args below meth c H locs cells slots Q (F0 m pc ls st))
    (hk : j_Wm g M Ψ pc' lv' st' h) : j_Wm g M Ψ pc lv st h := by
  obtain ⟨r, h', h1, h2, h3, h4⟩ := hk
  refine ⟨r, h', h1, h2, h3, ?_⟩
  intro u0 hu p e s m args below meth c H locs ls hm hs hl hb hr hv
  exact hstep hm hv (fun ls' hv' => h4 u0 hu p e s m args below meth c H locs ls' hm hs hl hb hr hv')
theorem j_hstep {pc' : Nat} {lv' : e_Lv} {st' : List Value} {h2 : e_Hp} (hn : h.2.1 ≤ h2.2.1) (hu : h.2.2 ≤ h2.2.2)
    (hstep : ∀ {u0 : Nat} {p : Program} {e : Env} {s : State} {m : MethodId} {args : Array Value} {below : List Frame} {meth : Method} {c : Code} {H : Heap} {locs : List Loc} {ls : Array Slot} {R : Room} {Q : State → Prop}, R.frames = M.2.1 → R.locals = M.2.2 → u0 ≤ h.2.2 → j_mc g M p s m args meth c → s.heap.size ≤ h.2.1 → (∀ q ∈ locs, e_B g ≤ q.base) → (∀ q : Nat, q < e_B g → H[q]? = g.2.1.heap[q]?) → e_rep g h H → e_lv ls M.1.2.2.1 lv → h2.2.1 - s.heap.size ≤ R.cells → h2.2.2 - u0 ≤ R.slots →
      (∀ (H' : Heap) (locs' : List Loc) (ls' : Array Slot), (∀ q ∈ locs', e_B g ≤ q.base) → (∀ q : Nat, q < e_B g → H'[q]? = g.2.1.heap[q]?) → e_rep g h2 H' → e_lv ls' M.1.2.2.1 lv' → W p g.1 e R s m args below meth c H' locs' (h2.2.1 - s.heap.size) (h2.2.2 - u0) Q (F0 m pc' ls' st')) →
      W p g.1 e R s m args below meth c H locs (h.2.1 - s.heap.size) (h.2.2 - u0) Q (F0 m pc ls st))
    (hk : j_Wm g M Ψ pc' lv' st' h2) : j_Wm g M Ψ pc lv st h := by
  obtain ⟨r, h', h1, h2', h3, h4⟩ := hk
  refine ⟨r, h', h1, Nat.le_trans hn h2', Nat.le_trans hu h3, ?_⟩
  intro u0 hu0 p e s m args below meth c H locs ls hm hs hl hb hr hv
  refine hstep rfl rfl hu0 hm hs hl hb hr hv (by show _ ≤ h'.2.1 - s.heap.size; omega) (by show _ ≤ h'.2.2 - u0; omega) (fun H' locs' ls' q1 q2 q3 q4 => ?_)
  exact h4 u0 (Nat.le_trans hu0 hu) p e s m args below meth c H' locs' ls' hm (Nat.le_trans hs hn) q1 q2 q3 q4
theorem r_null (hd : decode M.1.2.1 pc = .ok (.aconst_null, 1)) (q : j_Wm g M Ψ (pc + 1) lv (.null :: st) h) : j_Wm g M Ψ pc lv st h := j_pure (fun hm hv kk => lv_null hm.1 hm.2.1 hd (kk _ hv)) q
theorem r_iconst {i : Int} {x : Int32} (hd : decode M.1.2.1 pc = .ok (.iconst i, 1)) (e : Int32.ofInt i = x) (q : j_Wm g M Ψ (pc + 1) lv (.int x :: st) h) : j_Wm g M Ψ pc lv st h := j_pure (fun hm hv kk => lv_iconst hm.1 hm.2.1 hd e (kk _ hv)) q
theorem r_bipush {i : Int} {x : Int32} (hd : decode M.1.2.1 pc = .ok (.bipush i, 2)) (e : (Int8.ofInt i).toInt32 = x) (q : j_Wm g M Ψ (pc + 2) lv (.int x :: st) h) : j_Wm g M Ψ pc lv st h := j_pure (fun hm hv kk => lv_bipush hm.1 hm.2.1 hd e (kk _ hv)) q
theorem r_iload {i : Fin 4} {x : Int32} (hd : decode M.1.2.1 pc = .ok (.iload_n i, 1)) (hx : lv[(i : Nat)]? = some (some (.int x))) (q : j_Wm g M Ψ (pc + 1) lv (.int x :: st) h) : j_Wm g M Ψ pc lv st h := j_pure (fun hm hv kk => lv_iload_n hm.1 hm.2.1 hd rfl (hv.at hx) (kk _ hv)) q
theorem r_aload {i : Fin 4} {x : Nat} (hd : decode M.1.2.1 pc = .ok (.aload_n i, 1)) (hx : lv[(i : Nat)]? = some (some (.ref x))) (q : j_Wm g M Ψ (pc + 1) lv (.ref x :: st) h) : j_Wm g M Ψ pc lv st h := j_pure (fun hm hv kk => lv_aload_n hm.1 hm.2.1 hd rfl (hv.at hx) (kk _ hv)) q
theorem r_aload4 {i x : Nat} (hd : decode M.1.2.1 pc = .ok (.aload i, 2)) (hx : lv[i]? = some (some (.ref x))) (q : j_Wm g M Ψ (pc + 2) lv (.ref x :: st) h) : j_Wm g M Ψ pc lv st h := j_pure (fun hm hv kk => lv_aload hm.1 hm.2.1 hd (hv.at hx) (kk _ hv)) q
theorem r_istore {i : Fin 4} {x : Int32} (hd : decode M.1.2.1 pc = .ok (.istore_n i, 1)) (hl : (i : Nat) < lv.length) (q : j_Wm g M Ψ (pc + 1) (e_st1 lv i (.int x)) st h) : j_Wm g M Ψ pc lv (.int x :: st) h := j_pure (fun hm hv kk => lv_istore_n hm.1 hm.2.1 hd rfl hv.1 (by rw [← hv.2]; exact hl) rfl (fun ls' hl' => kk ls' (hv.st1 hl'))) q
theorem r_astore {i : Fin 4} {x : Nat} (hd : decode M.1.2.1 pc = .ok (.astore_n i, 1)) (hl : (i : Nat) < lv.length) (q : j_Wm g M Ψ (pc + 1) (e_st1 lv i (.ref x)) st h) : j_Wm g M Ψ pc lv (.ref x :: st) h := j_pure (fun hm hv kk => lv_astore_n hm.1 hm.2.1 hd rfl hv.1 (by rw [← hv.2]; exact hl) rfl (fun ls' hl' => kk ls' (hv.st1 hl'))) q
theorem r_astore4 {i x : Nat} (hd : decode M.1.2.1 pc = .ok (.astore i, 2)) (hl : i < lv.length) (q : j_Wm g M Ψ (pc + 2) (e_st1 lv i (.ref x)) st h) : j_Wm g M Ψ pc lv (.ref x :: st) h := j_pure (fun hm hv kk => lv_astore hm.1 hm.2.1 hd hv.1 (by rw [← hv.2]; exact hl) rfl (fun ls' hl' => kk ls' (hv.st1 hl'))) q
theorem r_iinc {i : Nat} {z : Int} {x y : Int32} (hd : decode M.1.2.1 pc = .ok (.iinc i z, 3)) (hx : lv[i]? = some (some (.int x))) (e : x + Int32.ofInt z = y) (hl : i < lv.length) (q : j_Wm g M Ψ (pc + 3) (e_st1 lv i (.int y)) st h) : j_Wm g M Ψ pc lv st h := by
  obtain ⟨j, hj⟩ := List.getElem?_of_mem (e_as_mem.mpr hx)
  exact j_pure (fun hm hv kk => lv_iinc hm.1 hm.2.1 hd hv.1 hj e (by rw [← hv.2]; exact hl) rfl (fun ls' hl' => kk ls' (hv.st1 hl'))) q
theorem r_iadd {x y : Int32} (hd : decode M.1.2.1 pc = .ok (.iadd, 1)) (q : j_Wm g M Ψ (pc + 1) lv (.int (x + y) :: st) h) : j_Wm g M Ψ pc lv (.int y :: .int x :: st) h := j_pure (fun hm hv kk => lv_iadd hm.1 hm.2.1 hd (kk _ hv)) q
theorem r_isub {x y : Int32} (hd : decode M.1.2.1 pc = .ok (.isub, 1)) (q : j_Wm g M Ψ (pc + 1) lv (.int (x - y) :: st) h) : j_Wm g M Ψ pc lv (.int y :: .int x :: st) h := j_pure (fun hm hv kk => lv_isub hm.1 hm.2.1 hd (kk _ hv)) q
theorem r_ishr {x y : Int32} (hd : decode M.1.2.1 pc = .ok (.ishr, 1)) (q : j_Wm g M Ψ (pc + 1) lv (.int (x >>> (y &&& 31)) :: st) h) : j_Wm g M Ψ pc lv (.int y :: .int x :: st) h := j_pure (fun hm hv kk => lv_ishr hm.1 hm.2.1 hd (kk _ hv)) q
theorem r_dup {v : Value} (hd : decode M.1.2.1 pc = .ok (.dup, 1)) (hv0 : v.category = 1) (q : j_Wm g M Ψ (pc + 1) lv (v :: v :: st) h) : j_Wm g M Ψ pc lv (v :: st) h := j_pure (fun hm hv kk => lv_dup hm.1 hm.2.1 hd hv0 (kk _ hv)) q
theorem r_dupx {v w : Value} (hd : decode M.1.2.1 pc = .ok (.dup_x1, 1)) (hv0 : v.category = 1) (hw0 : w.category = 1) (q : j_Wm g M Ψ (pc + 1) lv (v :: w :: v :: st) h) : j_Wm g M Ψ pc lv (v :: w :: st) h := j_pure (fun hm hv kk => lv_dup_x1 hm.1 hm.2.1 hd hv0 hw0 (kk _ hv)) q
theorem r_pop {v : Value} (hd : decode M.1.2.1 pc = .ok (.pop, 1)) (hv0 : v.category = 1) (q : j_Wm g M Ψ (pc + 1) lv st h) : j_Wm g M Ψ pc lv (v :: st) h := j_pure (fun hm hv kk => lv_pop hm.1 hm.2.1 hd hv0 (kk _ hv)) q
theorem r_goto {off : Int} (t : Nat) (hd : decode M.1.2.1 pc = .ok (.goto off, 3)) (ht : (pc : Int) + off = (t : Int)) (q : j_Wm g M Ψ t lv st h) : j_Wm g M Ψ pc lv st h := j_pure (fun hm hv kk => lv_goto hm.1 hm.2.1 hd ht (kk _ hv)) q
theorem r_ne0 {off : Int} {x : Int32} (t : Nat) (hd : decode M.1.2.1 pc = .ok (.ifCond .ne off, 3)) (ht : (pc : Int) + off = (t : Int)) (q1 : ¬ x = 0 → j_Wm g M Ψ t lv st h) (q2 : x = 0 → j_Wm g M Ψ (pc + 3) lv st h) : j_Wm g M Ψ pc lv (.int x :: st) h := by
  by_cases hc : x = 0
  · exact j_pure (fun hm hv kk => lv_if_ne hm.1 hm.2.1 hd ht (fun z => absurd hc z) (fun _ => kk _ hv)) (q2 hc)
  · exact j_pure (fun hm hv kk => lv_if_ne hm.1 hm.2.1 hd ht (fun _ => kk _ hv) (fun z => absurd z hc)) (q1 hc)
theorem r_gt0 {off : Int} {x : Int32} (t : Nat) (hd : decode M.1.2.1 pc = .ok (.ifCond .gt off, 3)) (ht : (pc : Int) + off = (t : Int)) (q1 : 0 < x → j_Wm g M Ψ t lv st h) (q2 : ¬ 0 < x → j_Wm g M Ψ (pc + 3) lv st h) : j_Wm g M Ψ pc lv (.int x :: st) h := by
  by_cases hc : 0 < x
  · exact j_pure (fun hm hv kk => lv_if_gt hm.1 hm.2.1 hd ht (fun _ => kk _ hv) (fun z => absurd hc z)) (q1 hc)
  · exact j_pure (fun hm hv kk => lv_if_gt hm.1 hm.2.1 hd ht (fun z => absurd z hc) (fun _ => kk _ hv)) (q2 hc)
theorem r_ge0 {off : Int} {x : Int32} (t : Nat) (hd : decode M.1.2.1 pc = .ok (.ifCond .ge off, 3)) (ht : (pc : Int) + off = (t : Int)) (q1 : 0 ≤ x → j_Wm g M Ψ t lv st h) (q2 : ¬ 0 ≤ x → j_Wm g M Ψ (pc + 3) lv st h) : j_Wm g M Ψ pc lv (.int x :: st) h := by
  by_cases hc : 0 ≤ x
  · exact j_pure (fun hm hv kk => lv_if_ge hm.1 hm.2.1 hd ht (fun _ => kk _ hv) (fun z => absurd hc z)) (q1 hc)
  · exact j_pure (fun hm hv kk => lv_if_ge hm.1 hm.2.1 hd ht (fun z => absurd z hc) (fun _ => kk _ hv)) (q2 hc)
theorem r_lt0 {off : Int} {x : Int32} (t : Nat) (hd : decode M.1.2.1 pc = .ok (.ifCond .lt off, 3)) (ht : (pc : Int) + off = (t : Int)) (q1 : x < 0 → j_Wm g M Ψ t lv st h) (q2 : ¬ x < 0 → j_Wm g M Ψ (pc + 3) lv st h) : j_Wm g M Ψ pc lv (.int x :: st) h := by
  by_cases hc : x < 0
  · exact j_pure (fun hm hv kk => lv_if_lt hm.1 hm.2.1 hd ht (fun _ => kk _ hv) (fun z => absurd hc z)) (q1 hc)
  · exact j_pure (fun hm hv kk => lv_if_lt hm.1 hm.2.1 hd ht (fun z => absurd z hc) (fun _ => kk _ hv)) (q2 hc)
theorem r_ne {off : Int} {x y : Int32} (t : Nat) (hd : decode M.1.2.1 pc = .ok (.if_icmp .ne off, 3)) (ht : (pc : Int) + off = (t : Int)) (q1 : ¬ x = y → j_Wm g M Ψ t lv st h) (q2 : x = y → j_Wm g M Ψ (pc + 3) lv st h) : j_Wm g M Ψ pc lv (.int y :: .int x :: st) h := by
  by_cases hc : x = y
  · exact j_pure (fun hm hv kk => lv_icmp_ne hm.1 hm.2.1 hd ht (fun z => absurd hc z) (fun _ => kk _ hv)) (q2 hc)
  · exact j_pure (fun hm hv kk => lv_icmp_ne hm.1 hm.2.1 hd ht (fun _ => kk _ hv) (fun z => absurd z hc)) (q1 hc)
theorem r_ge {off : Int} {x y : Int32} (t : Nat) (hd : decode M.1.2.1 pc = .ok (.if_icmp .ge off, 3)) (ht : (pc : Int) + off = (t : Int)) (q1 : y ≤ x → j_Wm g M Ψ t lv st h) (q2 : ¬ y ≤ x → j_Wm g M Ψ (pc + 3) lv st h) : j_Wm g M Ψ pc lv (.int y :: .int x :: st) h := by
  by_cases hc : y ≤ x
  · exact j_pure (fun hm hv kk => lv_icmp_ge hm.1 hm.2.1 hd ht (fun _ => kk _ hv) (fun z => absurd hc z)) (q1 hc)
  · exact j_pure (fun hm hv kk => lv_icmp_ge hm.1 hm.2.1 hd ht (fun z => absurd z hc) (fun _ => kk _ hv)) (q2 hc)
theorem r_gt {off : Int} {x y : Int32} (t : Nat) (hd : decode M.1.2.1 pc = .ok (.if_icmp .gt off, 3)) (ht : (pc : Int) + off = (t : Int)) (q1 : y < x → j_Wm g M Ψ t lv st h) (q2 : ¬ y < x → j_Wm g M Ψ (pc + 3) lv st h) : j_Wm g M Ψ pc lv (.int y :: .int x :: st) h := by
  by_cases hc : y < x
  · exact j_pure (fun hm hv kk => lv_icmp_gt hm.1 hm.2.1 hd ht (fun _ => kk _ hv) (fun z => absurd hc z)) (q1 hc)
  · exact j_pure (fun hm hv kk => lv_icmp_gt hm.1 hm.2.1 hd ht (fun z => absurd z hc) (fun _ => kk _ hv)) (q2 hc)
theorem r_lt {off : Int} {x y : Int32} (t : Nat) (hd : decode M.1.2.1 pc = .ok (.if_icmp .lt off, 3)) (ht : (pc : Int) + off = (t : Int)) (q1 : x < y → j_Wm g M Ψ t lv st h) (q2 : ¬ x < y → j_Wm g M Ψ (pc + 3) lv st h) : j_Wm g M Ψ pc lv (.int y :: .int x :: st) h := by
  by_cases hc : x < y
  · exact j_pure (fun hm hv kk => lv_icmp_lt hm.1 hm.2.1 hd ht (fun _ => kk _ hv) (fun z => absurd hc z)) (q1 hc)
  · exact j_pure (fun hm hv kk => lv_icmp_lt hm.1 hm.2.1 hd ht (fun z => absurd z hc) (fun _ => kk _ hv)) (q2 hc)
theorem r_le {off : Int} {x y : Int32} (t : Nat) (hd : decode M.1.2.1 pc = .ok (.if_icmp .le off, 3)) (ht : (pc : Int) + off = (t : Int)) (q1 : x ≤ y → j_Wm g M Ψ t lv st h) (q2 : ¬ x ≤ y → j_Wm g M Ψ (pc + 3) lv st h) : j_Wm g M Ψ pc lv (.int y :: .int x :: st) h := by
  by_cases hc : x ≤ y
  · exact j_pure (fun hm hv kk => lv_icmp_le hm.1 hm.2.1 hd ht (fun _ => kk _ hv) (fun z => absurd hc z)) (q1 hc)
  · exact j_pure (fun hm hv kk => lv_icmp_le hm.1 hm.2.1 hd ht (fun z => absurd z hc) (fun _ => kk _ hv)) (q2 hc)
theorem r_aeq {off : Int} {x : Nat} (t : Nat) (hd : decode M.1.2.1 pc = .ok (.if_acmp .eq off, 3)) (ht : (pc : Int) + off = (t : Int)) (q : j_Wm g M Ψ t lv st h) : j_Wm g M Ψ pc lv (.ref x :: .ref x :: st) h :=
  j_pure (fun hm hv kk => lv_acmp_eq (rx := some x) (ry := some x) hm.1 hm.2.1 hd ht (fun _ => kk _ hv) (fun z => absurd rfl z)) q
theorem r_ane {off : Int} {x : Nat} (t : Nat) (hd : decode M.1.2.1 pc = .ok (.if_acmp .ne off, 3)) (ht : (pc : Int) + off = (t : Int)) (q : j_Wm g M Ψ (pc + 3) lv st h) : j_Wm g M Ψ pc lv (.ref x :: .ref x :: st) h :=
  j_pure (fun hm hv kk => lv_acmp_ne (rx := some x) (ry := some x) hm.1 hm.2.1 hd ht (fun z => absurd rfl z) (fun _ => kk _ hv)) q
theorem r_ldc {own : String} {x : Nat} {v : Int32} (ho : M.1.1.cls = own) (hw : Cond.constant own x v ∈ e_tb) (hd : decode M.1.2.1 pc = .ok (.ldc x, 2)) (q : j_Wm g M Ψ (pc + 2) lv (.int v :: st) h) : j_Wm g M Ψ pc lv st h :=
  j_pure (fun hm hv kk => lv_ldc hm.1 hm.2.1 (hm.own ho) (hm.w hw) hd (kk _ hv)) q
/-- a field of a list's object -/
theorem r_get {own ref : String} {x a : Nat} {V : Nat → Value} (f : Nat) (hg : e_GK g) (ho : M.1.1.cls = own) (hf : f < 3) (hw : Cond.fieldLink own x ref (TJx4a65c f).2.1 (TJx4a65c f).2.2.1 ∈ e_tb) (hsm : ref = (TJx4a65c f).1 ∨ Cond.sameField ref (TJx4a65c f).1 (TJx4a65c f).2.1 (TJx4a65c f).2.2.1 ∈ e_tb)
    (hd : decode M.1.2.1 pc = .ok (.getfield x, 3)) (ha : h.1 a = some (e_O 0 V)) (q : j_Wm g M Ψ (pc + 3) lv (V f :: st) h) : j_Wm g M Ψ pc lv (.ref a :: st) h := by
  refine j_hstep (Nat.le_refl _) (Nat.le_refl _) (fun {u0 p e s m args below meth c H locs ls R Q} _ _ hu0 hm hs hl hb hr hv _ _ kk => ?_) q
  obtain ⟨-, C', hC', cell, q1, q2, q3, q4⟩ := e_obj hr ha
  have hC : vwCl[0]? = some (RJx4a65c, TJx4a65c, 3) := rfl
  cases hC.symm.trans hC'
  obtain ⟨hS, hfc, kC, hkC, hkind⟩ := (hm.K hg).1 0 _ hC
  obtain ⟨cf, kf, fi, fd, hi, hsl⟩ := hS f hf
  have hin := (e_cls hC).1
  have hi2 : s.fieldFound? ref (TJx4a65c f).2.1 (TJx4a65c f).2.2.1 = some (cf, kf, fi, fd) := by
    rcases hsm with e | e
    · rw [e]; exact hi
    · exact u_same (hm.w e) _ hi
  refine W.getf hm.1 hm.2.1 (hm.own ho) (hm.w hw) hi2 (u_facts hfc hkC (u_lays hm.2.2.2.2.2.1 (fun w hw => List.mem_cons_of_mem _ (hin w hw)) hf) hi).1 q1 (by rw [q3]; exact fun h => by cases h) (v := V f) ?_ rfl rfl hd (kk H locs ls hl hb hr hv)
  rw [hsl, q4 f hf]
theorem r_put {own ref : String} {x a : Nat} {v : Value} {V : Nat → Value} (f : Nat) (hg : e_GK g) (ho : M.1.1.cls = own) (hf : f < 3) (hw : Cond.fieldLink own x ref (TJx4a65c f).2.1 (TJx4a65c f).2.2.1 ∈ e_tb) (hsm : ref = (TJx4a65c f).1 ∨ Cond.sameField ref (TJx4a65c f).1 (TJx4a65c f).2.1 (TJx4a65c f).2.2.1 ∈ e_tb)
    (hfit : e_fit (if f = 1 then 2 else 0) v) (hd : decode M.1.2.1 pc = .ok (.putfield x, 3)) (ha : h.1 a = some (e_O 0 V)) (q : j_Wm g M Ψ (pc + 3) lv st (e_wr h a (e_O 0 (va_up V f v)))) : j_Wm g M Ψ pc lv (v :: .ref a :: st) h := by
  have hC : vwCl[0]? = some (RJx4a65c, TJx4a65c, 3) := rfl
  obtain ⟨hin, ⟨ty0, hty0⟩, hnm⟩ := e_cls hC
  obtain ⟨ty, hty, htk, hnf⟩ : ∃ ty : FieldType, parseFieldDescriptor (TJx4a65c f).2.2.1 = some ty ∧ ((ty = .int ∧ (if f = 1 then 2 else 0) = 0) ∨ (ty = .boolean ∧ (if f = 1 then 2 else 0) = 1) ∨ (((∃ C, ty = .object C) ∨ ∃ t, ty = .array t) ∧ (if f = 1 then 2 else 0) = 2)) ∧ (TJx4a65c f).2.2.2 = false := by
    match f, hf with
    | 0, _ => exact ⟨.int, tyJx4a65c_ok 0 (by decide), Or.inl ⟨rfl, rfl⟩, rfl⟩
    | 1, _ => exact ⟨.array (.object "java/lang/Object"), tyJx4a65c_ok 1 (by decide), Or.inr (Or.inr ⟨Or.inr ⟨_, rfl⟩, rfl⟩), rfl⟩
    | 2, _ => exact ⟨.int, tyJx4a65c_ok 2 (by decide), Or.inl ⟨rfl, rfl⟩, rfl⟩
  have hfn := e_fit_ok hfit htk
  refine j_hstep (h2 := e_wr h a (e_O 0 (va_up V f v))) (Nat.le_refl _) (Nat.le_refl _) (fun {u0 p e s m args below meth c H locs ls R Q} _ _ hu0 hm hs hl hb hr hv _ _ kk => ?_) q
  obtain ⟨hBa, C', hC', cell, q1, q2, q3, q4⟩ := e_obj hr ha
  cases hC.symm.trans hC'
  have hin' : ∀ w ∈ u_ws RJx4a65c TJx4a65c 3, w ∈ j_ws M := fun w hw => List.mem_cons_of_mem _ (hin w hw)
  have hap := va_apart (own := own) hm.2.2.2.2.2.1 hin' ty0 hty0 hnm (hm.K hg) hC
  obtain ⟨hS, hfc, kC, hkC, hkind⟩ := (hm.K hg).1 0 _ hC
  obtain ⟨cf, kf, fi, fd, hi, hsl⟩ := hS f hf
  have hi2 : s.fieldFound? ref (TJx4a65c f).2.1 (TJx4a65c f).2.2.1 = some (cf, kf, fi, fd) := by
    rcases hsm with e | e
    · rw [e]; exact hi
    · exact u_same (hm.w e) _ hi
  have hst := (u_facts hfc hkC (u_lays hm.2.2.2.2.2.1 hin' hf) hi).1
  have hlay := hm.2.2.2.2.2.1 _ (hin' _ (u_in_lay hf))
  have fin : ∀ H' : Heap, H'[a]? = some (cell.setSlot fd.slot v) → H'.size = H.size → (∀ q, q ≠ a → H'[q]? = H[q]?) → W p g.1 e R s m args below meth c H' (locs ++ [⟨a, fd.slot⟩]) (h.2.1 - s.heap.size) (h.2.2 - u0) Q (F0 m (pc + 3) ls st) := by
    intro H' e1 e2 e3
    refine kk H' _ ls (fun q hq => ?_) (fun q hq => ?_) (hr.wr ha (fun x hx => by cases hx) e2 e3 (fun ar => ⟨_, hC, ?_⟩)) hv
    · rcases List.mem_append.mp hq with h1 | h1
      · exact hl q h1
      · rw [List.mem_singleton.mp h1]; exact hBa
    · rw [e3 q (Nat.ne_of_lt (Nat.lt_of_lt_of_le hq hBa))]; exact hb q hq
    · rw [hsl] at e1
      exact ⟨_, e1, q2, q3, t_set q4 hap hf v⟩
  unfold u_lay at hlay
  rw [if_neg (by rw [hnf]; exact Bool.false_ne_true)] at hlay
  have h6 := u_store hfc hkC hkind hlay hi hty hfn.1 hfn.2
  exact W.putK hm.1 hm.2.1 (f := fd) ⟨hm.own ho, hm.w hw, ⟨_, _, _, hi2⟩, hst⟩ (by rw [q2]; exact h6) q1 q3 (by rw [hsl]; exact k2_hasslot (q4 f hf)) rfl rfl hd fin
end JA
