/-! THE CLAIM OUT OF ONE WALK OF THE LAW'S BODY. Your part is whole_start (and what it stands on); all else here is the same for every law, but numbers. -/
def R_law : String := "HoldHouseLaw"
def lw_P (b : Addr) (xs : List Int32) (args : Array Value) (s : State) : Prop := args = #[.ref b] ∧ s.IntsAt b xs ∧ xs.length ≤ 3072 ∧ (Jvm.Cond.and given_1 narrow_1).before args s = true
def lw_Q (_ : Array Value) (s : State) (o : Outcome) (t : State) : Prop := o = .returned (some (.int 1)) ∧ Framed s o t [] 600000 7302250
def lw_Z (below : List Frame) (a : Array Value) (s : State) : State → Prop := fun t => ∃ o, t.status = .running ∧ Ended t below o ∧ lw_Q a s o t
/-- the law's own end, with 1 on the stack, nothing written that was there before, its room as the claim has it -/
theorem lw_ret {p : Program} {l : Launch} {e : Env} {s : State} {m : MethodId} {below : List Frame} {meth : Method} {c : Code} {b : Nat} (hx : p.tables.exec = Jvm.exec) (hb : c.code = code) (hr : meth.sig.returnType = ret) (hlocks : meth.locks = false) {pc : Nat} {H : Heap} {ls : Array Slot} (hdg : decode code pc = .ok (.ireturn, 1)) : W p l e room_1 s m #[Value.ref b] below meth c H [] 600000 7302250 (lw_Z below #[Value.ref b] s) (F0 m pc ls [.int 1]) := by
  intro T hT X
  obtain ⟨fs, hret, hrun, hended, hW, hframe⟩ := X.leave (v := some (.int 1)) (hlocks := hlocks) (fun h => by rw [hr] at h; cases h)
  have hmeth' : T.vm.method? m = some meth := X.method'
  refine ⟨T.setFrames fs, ?_, .returned (some (.int 1)), hrun, hended, rfl, ⟨_, rfl⟩, hW, hframe⟩
  jvm_step X.here [X.here.top, hx, hb, hdg, hmeth', hr, ret, narrow_b1]
  (try refine ⟨rfl, ?_⟩); (try refine ⟨rfl, ?_⟩)
  first | (intro acts; rw [hret _ acts rfl rfl rfl]) | rw [hret _ _ rfl rfl rfl]
  exact Steps.refl _
/-- what holds at the law's entry: the machine, the code, the tables' words (any of lw_tbl by 'hts w (by decide +kernel)'), the script of L ints xs at the cell b, what the Statement gives of the start (any of its parts by flat_of_before) -/
def lw_At (p : Program) (s : State) (m : MethodId) (meth : Method) (c : Code) (b L : Nat) (xs : Nat → Int32) : Prop :=
  p.tables.exec = Jvm.exec ∧ c.code = code ∧ meth.sig.returnType = ret ∧ c.maxLocals = 4 ∧ s.vm.findClass R_law = some m.cls ∧ (∀ w ∈ lw_tbl, w.before #[Value.ref b] s = true) ∧ va_X b L xs s s.heap ∧ b < s.heap.size ∧ meth.locks = false ∧ (Jvm.Cond.and given_1 narrow_1).before #[Value.ref b] s = true
/-! the law's own rows -/
def l_W (g : e_G) (p : Program) (e : Env) (m : MethodId) (below : List Frame) (meth : Method) (c : Code) (b pc : Nat) (lv : e_Lv) (st : List Value) (h : e_Hp) : Prop :=
  e_B g ≤ h.2.1 → ∀ (H : Heap) (locs : List Loc) (ls : Array Slot), (∀ q ∈ locs, e_B g ≤ q.base) → (∀ q : Nat, q < e_B g → H[q]? = g.2.1.heap[q]?) → e_rep g h H → e_lv ls 4 lv →
    W p g.1 e room_1 g.2.1 m #[Value.ref b] below meth c H locs (h.2.1 - e_B g) h.2.2 (lw_Z below #[Value.ref b] g.2.1) (F0 m pc ls st)
section LA
variable {g : e_G} {p : Program} {e : Env} {m : MethodId} {below : List Frame} {meth : Method} {c : Code} {b L : Nat} {xs : Nat → Int32} {pc : Nat} {lv : e_Lv} {st : List Value} {h : e_Hp}
theorem l_pure {pc' : Nat} {lv' : e_Lv} {st' : List Value}
    (hstep : ∀ {H : Heap} {locs : List Loc} {ls : Array Slot} {cells slots : Nat} {Q : State → Prop}, e_lv ls 4 lv →
      (∀ ls' : Array Slot, e_lv ls' 4 lv' → W p g.1 e room_1 g.2.1 m #[Value.ref b] below meth c H locs cells slots Q (F0 m pc' ls' st')) → W p g.1 e room_1 g.2.1 m #[Value.ref b] below meth c H locs cells slots Q (F0 m pc ls st))
    (hk : l_W g p e m below meth c b pc' lv' st' h) : l_W g p e m below meth c b pc lv st h :=
  fun hB H locs ls hl hb hr hv => hstep hv (fun ls' hv' => hk hB H locs ls' hl hb hr hv')
theorem s_iconst {i : Int} {x : Int32} (C0 : lw_At p g.2.1 m meth c b L xs) (hd : decode code pc = .ok (.iconst i, 1)) (e0 : Int32.ofInt i = x) (q : l_W g p e m below meth c b (pc + 1) lv (.int x :: st) h) : l_W g p e m below meth c b pc lv st h := l_pure (fun hv kk => lv_iconst C0.1 C0.2.1 hd e0 (kk _ hv)) q
theorem s_bipush {i : Int} {x : Int32} (C0 : lw_At p g.2.1 m meth c b L xs) (hd : decode code pc = .ok (.bipush i, 2)) (e0 : (Int8.ofInt i).toInt32 = x) (q : l_W g p e m below meth c b (pc + 2) lv (.int x :: st) h) : l_W g p e m below meth c b pc lv st h := l_pure (fun hv kk => lv_bipush C0.1 C0.2.1 hd e0 (kk _ hv)) q
theorem s_iload {i : Fin 4} {x : Int32} (C0 : lw_At p g.2.1 m meth c b L xs) (hd : decode code pc = .ok (.iload_n i, 1)) (hx : lv[(i : Nat)]? = some (some (.int x))) (q : l_W g p e m below meth c b (pc + 1) lv (.int x :: st) h) : l_W g p e m below meth c b pc lv st h := l_pure (fun hv kk => lv_iload_n C0.1 C0.2.1 hd rfl (hv.at hx) (kk _ hv)) q
theorem s_aload {i : Fin 4} {x : Nat} (C0 : lw_At p g.2.1 m meth c b L xs) (hd : decode code pc = .ok (.aload_n i, 1)) (hx : lv[(i : Nat)]? = some (some (.ref x))) (q : l_W g p e m below meth c b (pc + 1) lv (.ref x :: st) h) : l_W g p e m below meth c b pc lv st h := l_pure (fun hv kk => lv_aload_n C0.1 C0.2.1 hd rfl (hv.at hx) (kk _ hv)) q
theorem s_istore {i : Fin 4} {x : Int32} (C0 : lw_At p g.2.1 m meth c b L xs) (hd : decode code pc = .ok (.istore_n i, 1)) (hl : (i : Nat) < lv.length) (q : l_W g p e m below meth c b (pc + 1) (e_st1 lv i (.int x)) st h) : l_W g p e m below meth c b pc lv (.int x :: st) h := l_pure (fun hv kk => lv_istore_n C0.1 C0.2.1 hd rfl hv.1 i.isLt rfl (fun ls' hl' => kk ls' (hv.st1 hl'))) q
theorem s_astore {i : Fin 4} {x : Nat} (C0 : lw_At p g.2.1 m meth c b L xs) (hd : decode code pc = .ok (.astore_n i, 1)) (hl : (i : Nat) < lv.length) (q : l_W g p e m below meth c b (pc + 1) (e_st1 lv i (.ref x)) st h) : l_W g p e m below meth c b pc lv (.ref x :: st) h := l_pure (fun hv kk => lv_astore_n C0.1 C0.2.1 hd rfl hv.1 i.isLt rfl (fun ls' hl' => kk ls' (hv.st1 hl'))) q
theorem s_iinc {i : Nat} {z : Int} {x y : Int32} (C0 : lw_At p g.2.1 m meth c b L xs) (hd : decode code pc = .ok (.iinc i z, 3)) (hx : lv[i]? = some (some (.int x))) (e0 : x + Int32.ofInt z = y) (hl : i < lv.length) (q : l_W g p e m below meth c b (pc + 3) (e_st1 lv i (.int y)) st h) : l_W g p e m below meth c b pc lv st h := by
  obtain ⟨j, hj⟩ := List.getElem?_of_mem (e_as_mem.mpr hx)
  exact l_pure (fun hv kk => lv_iinc C0.1 C0.2.1 hd hv.1 hj e0 (by rw [← hv.2]; exact hl) rfl (fun ls' hl' => kk ls' (hv.st1 hl'))) q
theorem s_iadd {x y : Int32} (C0 : lw_At p g.2.1 m meth c b L xs) (hd : decode code pc = .ok (.iadd, 1)) (q : l_W g p e m below meth c b (pc + 1) lv (.int (x + y) :: st) h) : l_W g p e m below meth c b pc lv (.int y :: .int x :: st) h := l_pure (fun hv kk => lv_iadd C0.1 C0.2.1 hd (kk _ hv)) q
theorem s_isub {x y : Int32} (C0 : lw_At p g.2.1 m meth c b L xs) (hd : decode code pc = .ok (.isub, 1)) (q : l_W g p e m below meth c b (pc + 1) lv (.int (x - y) :: st) h) : l_W g p e m below meth c b pc lv (.int y :: .int x :: st) h := l_pure (fun hv kk => lv_isub C0.1 C0.2.1 hd (kk _ hv)) q
theorem s_iand {x y : Int32} (C0 : lw_At p g.2.1 m meth c b L xs) (hd : decode code pc = .ok (.iand, 1)) (q : l_W g p e m below meth c b (pc + 1) lv (.int (x &&& y) :: st) h) : l_W g p e m below meth c b pc lv (.int y :: .int x :: st) h := l_pure (fun hv kk => lv_iand C0.1 C0.2.1 hd (kk _ hv)) q
theorem s_dup {v : Value} (C0 : lw_At p g.2.1 m meth c b L xs) (hd : decode code pc = .ok (.dup, 1)) (hv0 : v.category = 1) (q : l_W g p e m below meth c b (pc + 1) lv (v :: v :: st) h) : l_W g p e m below meth c b pc lv (v :: st) h := l_pure (fun hv kk => lv_dup C0.1 C0.2.1 hd hv0 (kk _ hv)) q
theorem s_goto {off : Int} (t : Nat) (C0 : lw_At p g.2.1 m meth c b L xs) (hd : decode code pc = .ok (.goto off, 3)) (ht : (pc : Int) + off = (t : Int)) (q : l_W g p e m below meth c b t lv st h) : l_W g p e m below meth c b pc lv st h := l_pure (fun hv kk => lv_goto C0.1 C0.2.1 hd ht (kk _ hv)) q
theorem s_gt {off : Int} {x y : Int32} (t : Nat) (C0 : lw_At p g.2.1 m meth c b L xs) (hd : decode code pc = .ok (.if_icmp .gt off, 3)) (ht : (pc : Int) + off = (t : Int)) (q1 : y < x → l_W g p e m below meth c b t lv st h) (q2 : ¬ y < x → l_W g p e m below meth c b (pc + 3) lv st h) : l_W g p e m below meth c b pc lv (.int y :: .int x :: st) h := by
  by_cases hc : y < x
  · exact l_pure (fun hv kk => lv_icmp_gt C0.1 C0.2.1 hd ht (fun _ => kk _ hv) (fun z => absurd hc z)) (q1 hc)
  · exact l_pure (fun hv kk => lv_icmp_gt C0.1 C0.2.1 hd ht (fun z => absurd z hc) (fun _ => kk _ hv)) (q2 hc)
theorem s_eq {off : Int} {x : Int32} (t : Nat) (C0 : lw_At p g.2.1 m meth c b L xs) (hd : decode code pc = .ok (.if_icmp .eq off, 3)) (ht : (pc : Int) + off = (t : Int)) (q : l_W g p e m below meth c b t lv st h) : l_W g p e m below meth c b pc lv (.int x :: .int x :: st) h :=
  l_pure (fun hv kk => lv_icmp_eq C0.1 C0.2.1 hd ht (fun _ => kk _ hv) (fun z => absurd rfl z)) q
theorem s_S {H : Heap} {locs : List Loc} (hB : e_B g ≤ h.2.1) (hl : ∀ q ∈ locs, e_B g ≤ q.base) (hb : ∀ q : Nat, q < e_B g → H[q]? = g.2.1.heap[q]?) (hr : e_rep g h H) : va_S (e_A g) g.2.1.heap H locs :=
  ⟨by rw [hr.1]; exact hB, fun q _ h2 => hb q (Nat.not_le.mp h2), hl⟩
theorem s_sld {i : Int32} (C0 : lw_At p g.2.1 m meth c b L xs) (hd : decode code pc = .ok (.iaload, 1)) (hin : vp_in i L) (q : l_W g p e m below meth c b (pc + 1) lv (.int (xs i.toNatClampNeg) :: st) h) : l_W g p e m below meth c b pc lv (.int i :: .ref b :: st) h := fun hB H locs ls hl hb hr hv =>
  va_sld C0.1 C0.2.1 C0.2.2.2.2.2.2.1 C0.2.2.2.2.2.2.2.1 (A := e_A g) (Nat.not_le.mpr C0.2.2.2.2.2.2.2.1) (s_S hB hl hb hr) hin hd (q hB H locs ls hl hb hr hv)
theorem s_slen (C0 : lw_At p g.2.1 m meth c b L xs) (hd : decode code pc = .ok (.arraylength, 1)) (q : l_W g p e m below meth c b (pc + 1) lv (.int (nI L) :: st) h) : l_W g p e m below meth c b pc lv (.ref b :: st) h := fun hB H locs ls hl hb hr hv =>
  va_slen C0.1 C0.2.1 C0.2.2.2.2.2.2.1 C0.2.2.2.2.2.2.2.1 (A := e_A g) (Nat.not_le.mpr C0.2.2.2.2.2.2.2.1) (s_S hB hl hb hr) hd (q hB H locs ls hl hb hr hv)
theorem s_w (C0 : lw_At p g.2.1 m meth c b L xs) {w : Cond} (h : w ∈ e_tb) : w.before #[Value.ref b] g.2.1 = true := C0.2.2.2.2.2.1 w (List.mem_filter.mp h).1
theorem s_good {w : Cond} (hw : w ∈ e_tb) : w ∈ lw_tbl ∧ ((w.onTables && w.keeps) = true ∨ ∃ ty, w = .arrayClass ty) := ⟨(List.mem_filter.mp hw).1, good_of_word (List.mem_filter.mp hw).2⟩
theorem s_goodIn {k' : Nat} (hk : k' < 252) : GoodIn lw_tbl (e_ws k') := by
  intro w hw
  rcases List.mem_cons.mp hw with rfl | hw
  · exact s_good (e_code_in hk).1
  · exact s_good hw
theorem s_own (C0 : lw_At p g.2.1 m meth c b L xs) : g.2.1.vm.findClass (e_cn 14) = some m.cls := C0.2.2.2.2.1
theorem s_new {x ci : Nat} (hg : e_GK g) (C0 : lw_At p g.2.1 m meth c b L xs) (hct : e_CT 14 x = some ci) (hd : decode code pc = .ok (.new x, 3)) (h1 : h.2.1 + 1 - e_B g ≤ 600000) (h2 : h.2.2 + e_nf ci ≤ 7302250) (q : l_W g p e m below meth c b (pc + 3) lv (.ref h.2.1 :: st) (e_al h (e_O ci (e_dv ci)) (e_nf ci))) : l_W g p e m below meth c b pc lv st h := by
  intro hB H locs ls hl hb hr hv
  obtain ⟨C, hC, hw⟩ := e_CT_ok hct
  obtain ⟨hin, ⟨ty0, hty0⟩, hnm⟩ := e_cls hC
  have hN : e_nf ci = C.2.2 := by unfold e_nf; rw [List.getD_eq_getElem?_getD, hC]; rfl
  have hsz := hr.1
  have hKn := hg.1.1 ci _ hC
  have hin' : ∀ w ∈ u_ws C.1 C.2.1 C.2.2, w ∈ lw_tbl := fun w hw => (List.mem_filter.mp (hin w hw)).1
  have r1 : room_1.cells = 600000 := rfl
  have r2 : room_1.slots = 7302250 := rfl
  refine W.newcK C0.1 C0.2.1 (s_own C0) (s_w C0 hw) (s_w C0 (e_cls_in hC).1) (s_w C0 (e_cls_in hC).2) rfl hd (by rw [r1]; omega) (by rw [r2]; omega) hKn.2.1 hsz fun H1 kC hkC e1 z1 o1 => ?_
  have hB2 : e_B g ≤ H.size := by rw [hsz]; exact hB
  have key := q (Nat.le_succ_of_le hB) H1 locs ls hl (fun q hq => (o1 q (by omega)).trans (hb q hq)) (hr.al hB2 (fun x hx => by cases hx) (by rw [z1, hsz]) (fun q hq => o1 q (by omega)) (fun ar => ⟨C, hC, by rw [hsz]; exact (u_born ty0 C0.2.2.2.2.2.1 hin' hKn hkC e1 hty0).to (fun j hj => e_dv_ok hC hty0 hj)⟩)) hv
  have a1 : h.2.1 - e_B g + 1 = (e_al h (e_O ci (e_dv ci)) (e_nf ci)).2.1 - e_B g := by show _ = h.2.1 + 1 - e_B g; omega
  have a2 : h.2.2 + C.2.2 = (e_al h (e_O ci (e_dv ci)) (e_nf ci)).2.2 := by show _ = h.2.2 + e_nf ci; omega
  rw [a1, a2]
  exact key
theorem s_pre {H : Heap} {av : List Value} (C0 : lw_At p g.2.1 m meth c b L xs) (hb : ∀ q : Nat, q < e_B g → H[q]? = g.2.1.heap[q]?) (hr : e_rep g h H) : ∀ U : State, U.heap = H → g.2.1.WarmedH U.vm → va_Pc av (e_Pm g h) av.toArray U := by
  intro U hU hW
  refine ⟨rfl, ⟨hW.alike, by rw [hU]; exact hb, by rw [hU]; exact hr⟩, fun w hw => ?_⟩
  have hm := (List.mem_filter.mp hw).1
  obtain ⟨a, i, x, b', rfl⟩ := e_nest_is hw
  exact va_Nw.warmM hW (va_Nw.of rfl (C0.2.2.2.2.2.1 _ hm))
/-- a call out of the law: room for it, and what it leaves -/
def l_Sc (g : e_G) (k : Nat) (av : List Value) (h : e_Hp) (K : Option Value → e_Hp → Prop) : Prop := e_Sc g k av h (fun rv h' => (h'.2.1 - e_B g ≤ 600000 ∧ h'.2.2 ≤ 7302250) ∧ K rv h')
theorem s_cal {k' : Nat} {av r : List Value}
    (hgo : ∀ {mc ms : Nat} {rv : Option Value} {h1 : e_Hp} {H : Heap} {locs : List Loc} {ls : Array Slot} {cells slots : Nat}, Met g.1 (e_y k') (e_ws k') (e_rm k' mc ms) (va_Pc av (e_Pm g h)) (e_Qm g rv h1) mc ms (fun q => e_B g ≤ q) → (∀ q : Nat, q < e_B g → H[q]? = g.2.1.heap[q]?) → e_rep g h H → e_lv ls 4 lv → cells + mc ≤ 600000 → slots + ms ≤ 7302250 →
      va_Run p g.1 e room_1 g.2.1 m #[Value.ref b] below meth c H locs cells slots mc ms (F0 m pc ls st) r (e_Qm g rv h1 av.toArray) (fun q => e_B g ≤ q))
    (q : l_Sc g k' av h (fun rv h' => l_W g p e m below meth c b (pc + 3) lv (e_ps rv r) h')) : l_W g p e m below meth c b pc lv st h := by
  intro hB H locs ls hl hb hr hv
  obtain ⟨rv, h1, ⟨⟨b1, b2⟩, q⟩, hn, hu, hM⟩ := q
  have a1 : h.2.1 - e_B g + (h1.2.1 - h.2.1) = h1.2.1 - e_B g := by omega
  have a2 : h.2.2 + (h1.2.2 - h.2.2) = h1.2.2 := by omega
  refine e_call_W (hgo hM hb hr hv (by rw [a1]; exact b1) (by rw [a2]; exact b2)) (fun t L hok hL => ?_)
  rw [a1, a2]
  exact q (Nat.le_trans hB hn) t.heap (locs ++ L) ls (fun q hq => (List.mem_append.mp hq).elim (hl q) (hL q)) hok.2.1 hok.2.2 hv
def l_rmk (k' : Nat) : Bool := decide (e_fr k' + 1 ≤ 15) && decide (8 + (e_mL k' + 11) + e_lo k' ≤ 598)
theorem s_virt {x k' ci a : Nat} {As st : List Value} (hg : e_GK g) (C0 : lw_At p g.2.1 m meth c b L xs) (hx : e_MT 14 x = some (0, k', As.length, ci)) (hrm : l_rmk k' = true) (hd : decode code pc = .ok (.invokevirtual x, 3)) (hl4 : e_l4 st) (hC0 : e_isC h a ci) (q : l_Sc g k' (.ref a :: As) h (fun rv h' => l_W g p e m below meth c b (pc + 3) lv (e_ps rv st) h')) : l_W g p e m below meth c b pc lv (As.reverse ++ .ref a :: st) h := by
  obtain ⟨ps, hc⟩ := e_MT_ok hx
  simp only [e_MTc, Bool.and_eq_true, decide_eq_true_eq, beq_iff_eq] at hc
  obtain ⟨⟨⟨⟨⟨c1, c2⟩, c3⟩, c4⟩, c5⟩, c6⟩ := hc
  obtain ⟨C, hC, hcn⟩ : ∃ C, vwCl[ci]? = some C ∧ C.1 = (e_y k').cls := by
    cases hC : vwCl[ci]? with
    | none => rw [hC] at c6; cases c6
    | some C => rw [hC] at c6; exact ⟨C, rfl, by simpa using c6⟩
  simp only [l_rmk, Bool.and_eq_true, decide_eq_true_eq] at hrm
  obtain ⟨m1, m2, -, -⟩ := e_mw c1
  obtain ⟨m3, m4⟩ := m2 c2
  refine s_cal (fun {mc ms rv h1 H locs ls cells slots} hM hb hr hv hc1 hc2 => ?_) q
  have hG : GoodIn lw_tbl (wsV (e_cn 14) x (e_y k').cls (e_y k') (e_ws k')) := by
    intro w hw
    unfold wsV at hw
    rcases List.mem_append.mp hw with hw | hw
    · simp only [List.mem_cons, List.not_mem_nil, or_false] at hw
      rcases hw with rfl | rfl | rfl | rfl
      · exact s_good (e_tb_of c3 c4)
      · exact s_good m3
      · exact s_good m4
      · exact s_good m1
    · exact s_goodIn c1 w hw
  refine va_runV (As := As) (rest := st) ⟨C0.1, C0.2.1, C0.2.2.2.1, s_own C0, C0.2.2.2.2.2.1⟩ hM (cwV As.length C0.2.2.2.2.2.1 hG rfl rfl rfl ⟨rfl, (e_nMH c1).1, (e_nMH c1).2, c5⟩ ⟨hrm.1, hrm.2⟩) ⟨e_blind, ?_, s_pre C0 hb hr⟩ rfl rfl hv.1.1 rfl (lv_room hl4) hd ⟨hc1, hc2⟩
  rw [← hcn]
  have hcl := (hg.1.1 ci _ hC).2
  unfold e_isC at hC0; split at hC0
  · rename_i x' hx'
    obtain ⟨ci', V⟩ := x'
    have hC0 : ci' = ci := hC0
    subst hC0
    obtain ⟨-, C', hC', cell, q1, q2, q3, q4⟩ := e_obj hr hx'
    exact ⟨cell, q1, by rw [q3]; rfl, by rw [q2]; exact hcl.1⟩
  · rename_i x' hx'
    have hC0 : ci = 0 := hC0
    subst hC0
    obtain ⟨h0, ar, h1, h2⟩ := hr
    obtain ⟨-, z, ⟨cell, q1, q2, q3, q4⟩, -⟩ := h1 a _ hx'
    exact ⟨cell, q1, by rw [q3]; rfl, by rw [q2]; exact hcl.1⟩
  · exact hC0.elim
theorem s_init {x k' ci a : Nat} {As st : List Value} (C0 : lw_At p g.2.1 m meth c b L xs) (hx : e_MT 14 x = some (2, k', As.length, ci)) (hrm : l_rmk k' = true) (hd : decode code pc = .ok (.invokespecial x, 3)) (hl4 : e_l4 st) (q : l_Sc g k' (.ref a :: As) h (fun rv h' => l_W g p e m below meth c b (pc + 3) lv (e_ps rv st) h')) : l_W g p e m below meth c b pc lv (As.reverse ++ .ref a :: st) h := by
  obtain ⟨ps, hc⟩ := e_MT_ok hx
  simp only [e_MTc, Bool.and_eq_true, decide_eq_true_eq, beq_iff_eq] at hc
  obtain ⟨⟨⟨⟨⟨c1, c2⟩, c3⟩, c4⟩, c5⟩, c6⟩ := hc
  simp only [l_rmk, Bool.and_eq_true, decide_eq_true_eq] at hrm
  obtain ⟨m1, -, -, m2⟩ := e_mw c1
  obtain ⟨m3, m4⟩ := m2 c2
  refine s_cal (fun {mc ms rv h1 H locs ls cells slots} hM hb hr hv hc1 hc2 => ?_) q
  exact va_runI (As := As) (rest := st) ⟨C0.1, C0.2.1, C0.2.2.2.1, s_own C0, C0.2.2.2.2.2.1⟩ hM (cwI As.length C0.2.2.2.2.2.1 (s_goodIn c1) (e_rt_rw c6) rfl rfl (s_w C0 m1) (s_w C0 (e_tb_of c3 c4)) (s_w C0 m3) m4 ⟨(e_nMH c1).1, (e_nMH c1).2, c5⟩ ⟨hrm.1, hrm.2⟩) ⟨e_blind, s_pre C0 hb hr⟩ rfl rfl hv.1.1 rfl (lv_room hl4) hd ⟨hc1, hc2⟩
theorem s_end (C0 : lw_At p g.2.1 m meth c b L xs) (hd : decode code pc = .ok (.ireturn, 1)) (h1 : h.2.1 - e_B g ≤ 600000) (h2 : h.2.2 ≤ 7302250) : l_W g p e m below meth c b pc lv [.int 1] h := fun hB H locs ls hl hb hr hv => by
  refine va_forget (fun q hq => hl q hq) ?_
  refine W.widen (k := 600000) (n := 7302250) h1 h2 ?_
  exact lw_ret C0.1 C0.2.1 C0.2.2.1 C0.2.2.2.2.2.2.2.2.1 hd
theorem s_tsw {d lo hi : Int} {offs : Array Int} {len : Nat} {x : Int32} {t : Nat} (C0 : lw_At p g.2.1 m meth c b L xs) (hd : decode code pc = .ok (.tableswitch d lo hi offs, len)) (h : e_Hp) (hc : (x.toInt < lo ∨ hi < x.toInt) ∧ (pc : Int) + d = (t : Int) ∨ ¬ x.toInt < lo ∧ ¬ hi < x.toInt ∧ ∃ off, offs[(x.toInt - lo).toNat]? = some off ∧ (pc : Int) + off = (t : Int)) (q : l_W g p e m below meth c b t lv st h) : l_W g p e m below meth c b pc lv (.int x :: st) h := by
  rcases hc with ⟨h1, h2⟩ | ⟨h1, h2, off, h3, h4⟩
  · exact l_pure (fun hv kk => lv_tableOut C0.1 C0.2.1 hd h1 h2 (kk _ hv)) q
  · exact l_pure (fun hv kk => lv_tableIn C0.1 C0.2.1 hd h1 h2 h3 h4 (kk _ hv)) q
end LA
