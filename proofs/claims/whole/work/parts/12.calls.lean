/-! calls, and the whole: what e_Sm says the machine does -/
section CA
variable {g : e_G} {k o : Nat} {Ψ : e_Q} {pc : Nat} {lv : e_Lv} {st : List Value} {h : e_Hp}
theorem e_call_W {p : Program} {l : Launch} {e : Env} {R : Room} {s : State} {m : MethodId} {args : Array Value} {below : List Frame} {meth : Method} {c : Code} {H : Heap} {locs : List Loc} {cells slots mc ms : Nat} {Q : State → Prop} {ls : Array Slot} {st0 rest : List Value} {rv : Option Value} {h1 : e_Hp} {a : Array Value} {free : Addr → Prop}
    (hr : va_Run p l e R s m args below meth c H locs cells slots mc ms (F0 m pc ls st0) rest (e_Qm g rv h1 a) free)
    (kk : ∀ (t : State) (L : List Loc), e_ok g h1 t → (∀ q ∈ L, free q.base) → W p l e R s m args below meth c t.heap (locs ++ L) (cells + mc) (slots + ms) Q (F0 m (pc + 3) ls (rv.toList ++ rest))) : W p l e R s m args below meth c H locs cells slots Q (F0 m pc ls st0) := by
  intro T hT X
  obtain ⟨v, st₀, t, T', L, h0, X', hL, e1, e2, ⟨hv, hok⟩, stp⟩ := hr T hT X
  cases hv
  obtain ⟨t2, a1, b1⟩ := kk t L hok hL T' e1 X'
  exact ⟨t2, stp t2 a1, b1⟩
theorem e_good {w : Cond} (hw : w ∈ e_tb) : w ∈ e_ws k ∧ ((w.onTables && w.keeps) = true ∨ ∃ ty, w = .arrayClass ty) := ⟨e_tb_ws hw, good_of_word (List.mem_filter.mp hw).2⟩
theorem e_goodIn {k' : Nat} (hk : k' < 252) : GoodIn (e_ws k) (e_ws k') := by
  intro w hw
  rcases List.mem_cons.mp hw with rfl | hw
  · exact e_good (e_code_in hk).1
  · exact e_good hw
theorem e_nest_is {w : Cond} (hw : w ∈ e_nest) : ∃ a i x b, w = .methodLinkNest a i x b := by
  have := (List.mem_filter.mp hw).2
  split at this
  · exact ⟨_, _, _, _, rfl⟩
  · cases this
theorem e_blind {av : List Value} : FrameBlind (va_Pc av (e_Pm g h)) := by
  intro a U gg mk q
  refine ⟨q.1, ⟨q.2.1.1, q.2.1.2.1, q.2.1.2.2⟩, fun w hw => ?_⟩
  have h0 := q.2.2 w hw
  obtain ⟨a, i, x, b, rfl⟩ := e_nest_is hw
  exact va_Nw.same rfl rfl h0
theorem e_pre {p : Program} {s : State} {m : MethodId} {args : Array Value} {meth : Method} {c : Code} {H : Heap} {av : List Value} (hm : e_mc g k p s m args meth c) (hb : ∀ q : Nat, q < e_B g → H[q]? = g.2.1.heap[q]?) (hr : e_rep g h H) :
    ∀ U : State, U.heap = H → s.WarmedH U.vm → va_Pc av (e_Pm g h) av.toArray U := by
  intro U hU hW
  refine ⟨rfl, ⟨hm.2.2.2.2.2.2.2.2.1.trans hW.alike, by rw [hU]; exact hb, by rw [hU]; exact hr⟩, fun w hw => ?_⟩
  have h0 := hm.2.2.2.2.2.2.2.2.2.1 w hw
  obtain ⟨a, i, x, b, rfl⟩ := e_nest_is hw
  exact va_Nw.warmM hW h0
theorem e_MT_ok {x kd k' n ci : Nat} (hx : e_MT o x = some (kd, k', n, ci)) : ∃ p : Nat, e_MTc (o, x, kd, k', n, ci, p) = true := by
  unfold e_MT at hx
  cases hf : e_MTl.find? (fun e => e.1 == o && e.2.1 == x) with
  | none => rw [hf] at hx; cases hx
  | some e =>
    rw [hf] at hx
    obtain ⟨hm, hp⟩ := e_find hf
    obtain ⟨e1, e2, e3, e4, e5, e6, e7⟩ := e
    simp only [Option.map_some, Option.some.injEq, Prod.mk.injEq] at hx
    obtain ⟨rfl, rfl, rfl, rfl⟩ := hx
    simp only [Bool.and_eq_true, beq_iff_eq] at hp
    obtain ⟨rfl, rfl⟩ := hp
    exact ⟨_, e_MTc_ok _ hm⟩
set_option maxRecDepth 20000 in
theorem e_nmh : e_ml.all (fun q => decide (q.1.cls ≠ "java/lang/invoke/MethodHandle") && decide (q.1.cls ≠ "java/lang/invoke/VarHandle")) = true := by decide +kernel
theorem e_nMH {k' : Nat} (h : k' < 252) : (e_y k').cls ≠ "java/lang/invoke/MethodHandle" ∧ (e_y k').cls ≠ "java/lang/invoke/VarHandle" := by
  have hk : k' < e_ml.length := by rw [e_ml_len]; exact h
  have he : e_mk k' = e_ml[k'] := by
    unfold e_mk
    rw [List.getD_eq_getElem?_getD, List.getElem?_eq_getElem hk]
    rfl
  have hm := List.all_eq_true.mp e_nmh (e_mk k') (by rw [he]; exact List.getElem_mem hk)
  simp only [Bool.and_eq_true, decide_eq_true_eq] at hm
  exact hm
/-- room for a call of k' in k -/
def e_rmk (k k' : Nat) : Bool := decide (e_fr k' + 1 ≤ e_fr k) && decide (8 + (e_mL k' + 11) + e_lo k' ≤ e_lo k)
theorem e_w_cal {K : e_K} {k' : Nat} {av : List Value} {r : List Value} (hK : ∀ lv st h, K lv st h → e_Wm g k Ψ (pc + 3) lv st h)
    (hgo : ∀ {mc ms : Nat} {rv : Option Value} {h1 : e_Hp} {p : Program} {e : Env} {s : State} {m : MethodId} {args : Array Value} {below : List Frame} {meth : Method} {c : Code} {H : Heap} {locs : List Loc} {ls : Array Slot} {R : Room} {cells slots : Nat}, Met g.1 (e_y k') (e_ws k') (e_rm k' mc ms) (va_Pc av (e_Pm g h)) (e_Qm g rv h1) mc ms (fun q => e_B g ≤ q) → e_mc g k p s m args meth c → (∀ q : Nat, q < e_B g → H[q]? = g.2.1.heap[q]?) → e_rep g h H → e_lv ls (e_mL k) lv → R.frames = e_fr k → R.locals = e_lo k → cells + mc ≤ R.cells → slots + ms ≤ R.slots →
      va_Run p g.1 e R s m args below meth c H locs cells slots mc ms (F0 m pc ls st) r (e_Qm g rv h1 av.toArray) (fun q => e_B g ≤ q))
    (q : e_Sc g k' av h (fun rv h' => K lv (e_ps rv r) h')) : e_Wm g k Ψ pc lv st h := by
  obtain ⟨rv, h1, q, hn, hu, hM⟩ := q
  obtain ⟨r2, h', k1, k2, k3, k4⟩ := hK _ _ _ q
  refine ⟨r2, h', k1, Nat.le_trans hn k2, Nat.le_trans hu k3, ?_⟩
  intro u0 hu0 p e s m args below meth c H locs ls hm hs hl hb hr hv
  have a1 : h.2.1 - s.heap.size + (h1.2.1 - h.2.1) = h1.2.1 - s.heap.size := by omega
  have a2 : h.2.2 - u0 + (h1.2.2 - h.2.2) = h1.2.2 - u0 := by omega
  refine e_call_W (hgo hM hm hb hr hv rfl rfl (by rw [a1]; show _ ≤ h'.2.1 - s.heap.size; omega) (by rw [a2]; show _ ≤ h'.2.2 - u0; omega)) (fun t L hok hL => ?_)
  rw [a1, a2]
  exact k4 u0 (Nat.le_trans hu0 hu) p e s m args below meth c t.heap (locs ++ L) ls hm (Nat.le_trans hs hn) (fun q hq => (List.mem_append.mp hq).elim (hl q) (hL q)) hok.2.1 hok.2.2 hv
theorem e_recv {p : Program} {s : State} {m : MethodId} {args : Array Value} {meth : Method} {c : Code} {H : Heap} {a ci : Nat} {C : vw_C} (hg : e_GK g) (hm : e_mc g k p s m args meth c) (hr : e_rep g h H) (hC : vwCl[ci]? = some C) (q : e_isC h a ci) : ∃ cell : Cell, H[a]? = some cell ∧ cell.vm.isStatics = false ∧ s.vm.findClass C.1 = some cell.cls := by
  have hcl := ((hm.K hg).1 ci _ hC).2
  unfold e_isC at q; split at q
  · rename_i x hx
    obtain ⟨ci', V⟩ := x
    have q : ci' = ci := q
    subst q
    obtain ⟨-, C', hC', cell, q1, q2, q3, q4⟩ := e_obj hr hx
    exact ⟨cell, q1, by rw [q3]; rfl, by rw [q2]; exact hcl.1⟩
  · rename_i x hx
    have q : ci = 0 := q
    subst q
    obtain ⟨h0, ar, h1, h2⟩ := hr
    obtain ⟨-, z, ⟨cell, q1, q2, q3, q4⟩, -⟩ := h1 a _ hx
    exact ⟨cell, q1, by rw [q3]; rfl, by rw [q2]; exact hcl.1⟩
  · exact q.elim
theorem e_tk {n : Nat} {a : Nat} {r : List Value} (hd : st.drop n = .ref a :: r) : st = (st.take n).reverse.reverse ++ .ref a :: r ∧ (st.take n).reverse.length = n := by
  have hl : n < st.length := by
    rcases Nat.lt_or_ge n st.length with z | z
    · exact z
    · rw [List.drop_eq_nil_of_le z] at hd; cases hd
  refine ⟨?_, by rw [List.length_reverse, List.length_take]; omega⟩
  rw [List.reverse_reverse, ← hd, List.take_append_drop]
theorem e_rt_rw {k' : Nat} (h : e_rt k' = none) : e_ws k' = Cond.code (e_y k') (e_c k') (e_mL k') none :: e_tb := by unfold e_ws; rw [h]
theorem e_w_virt {K : e_K} {x k' n ci : Nat} (hg : e_GK g) (ho : (e_y k).cls = e_cn o) (hd : decode (e_c k) pc = .ok (.invokevirtual x, 3)) (hx : e_MT o x = some (0, k', n, ci)) (hrm : e_rmk k k' = true) (hK : ∀ lv st h, K lv st h → e_Wm g k Ψ (pc + 3) lv st h)
    (q : e_p1r (st.drop n) (fun a r => e_isC h a ci ∧ e_l4 r ∧ e_Sc g k' (.ref a :: (st.take n).reverse) h (fun rv h' => K lv (e_ps rv r) h'))) : e_Wm g k Ψ pc lv st h := by
  obtain ⟨a, r, hst, hC0, hl4, q⟩ := e_p1r_spec q
  obtain ⟨ps, hc⟩ := e_MT_ok hx
  simp only [e_MTc, Bool.and_eq_true, decide_eq_true_eq, beq_iff_eq] at hc
  obtain ⟨⟨⟨⟨⟨c1, c2⟩, c3⟩, c4⟩, c5⟩, c6⟩ := hc
  obtain ⟨C, hC, hcn⟩ : ∃ C, vwCl[ci]? = some C ∧ C.1 = (e_y k').cls := by
    cases hC : vwCl[ci]? with
    | none => rw [hC] at c6; cases c6
    | some C => rw [hC] at c6; exact ⟨C, rfl, by simpa using c6⟩
  simp only [e_rmk, Bool.and_eq_true, decide_eq_true_eq] at hrm
  obtain ⟨t1, t2⟩ := e_tk hst
  obtain ⟨m1, m2, -, -⟩ := e_mw c1
  obtain ⟨m3, m4⟩ := m2 c2
  refine e_w_cal hK (fun {mc ms rv h1 p e s m args below meth c H locs ls R cells slots} hM hm hb hr hv hf1 hf2 hc1 hc2 => ?_) q
  have hG : GoodIn (e_ws k) (wsV (e_cn o) x (e_y k').cls (e_y k') (e_ws k')) := by
    intro w hw
    unfold wsV at hw
    rcases List.mem_append.mp hw with hw | hw
    · simp only [List.mem_cons, List.not_mem_nil, or_false] at hw
      rcases hw with rfl | rfl | rfl | rfl
      · exact e_good (e_tb_of c3 c4)
      · exact e_good m3
      · exact e_good m4
      · exact e_good m1
    · exact e_goodIn c1 w hw
  refine va_runV (As := (st.take n).reverse) (rest := r) ⟨hm.1, hm.2.1, hm.2.2.1, hm.own ho, hm.2.2.2.2.2.1⟩ hM (cwV n hm.2.2.2.2.2.1 hG rfl rfl rfl ⟨rfl, (e_nMH c1).1, (e_nMH c1).2, c5⟩ ⟨by rw [hf1]; exact hrm.1, by rw [hf2]; exact hrm.2⟩) ⟨e_blind, ?_, e_pre hm hb hr⟩ rfl t2 hv.1.1 t1 (lv_room hl4) hd ⟨hc1, hc2⟩
  rw [← hcn]
  exact e_recv hg hm hr hC hC0
theorem e_w_stat {K : e_K} {x k' n ci : Nat} (ho : (e_y k).cls = e_cn o) (hd : decode (e_c k) pc = .ok (.invokestatic x, 3)) (hx : e_MT o x = some (1, k', n, ci)) (hrm : e_rmk k k' = true) (hK : ∀ lv st h, K lv st h → e_Wm g k Ψ (pc + 3) lv st h)
    (q : n ≤ st.length ∧ e_l4 (st.drop n) ∧ e_Sc g k' (st.take n).reverse h (fun rv h' => K lv (e_ps rv (st.drop n)) h')) : e_Wm g k Ψ pc lv st h := by
  obtain ⟨hln, hl4, q⟩ := q
  obtain ⟨ps, hc⟩ := e_MT_ok hx
  simp only [e_MTc, Bool.and_eq_true, decide_eq_true_eq, beq_iff_eq] at hc
  obtain ⟨⟨⟨⟨c1, c2⟩, c3⟩, c4⟩, c5⟩ := hc
  simp only [e_rmk, Bool.and_eq_true, decide_eq_true_eq] at hrm
  obtain ⟨m1, -, m2, -⟩ := e_mw c1
  have m3 := m2 c2
  refine e_w_cal hK (fun {mc ms rv h1 p e s m args below meth c H locs ls R cells slots} hM hm hb hr hv hf1 hf2 hc1 hc2 => ?_) q
  have hG : GoodIn (e_ws k) (va_wsS (e_cn o) x (e_y k') (e_ws k')) := by
    intro w hw
    unfold va_wsS at hw
    rcases List.mem_append.mp hw with hw | hw
    · simp only [List.mem_cons, List.not_mem_nil, or_false] at hw
      rcases hw with rfl | rfl | rfl
      · exact e_good (e_tb_of c3 c4)
      · exact e_good m3
      · exact e_good m1
    · exact e_goodIn c1 w hw
  exact va_runS (As := (st.take n).reverse) (rest := st.drop n) ⟨hm.1, hm.2.1, hm.2.2.1, hm.own ho, hm.2.2.2.2.2.1⟩ hM (va_cwS n hm.2.2.2.2.2.1 hG rfl rfl rfl ⟨(e_nMH c1).1, (e_nMH c1).2, c5⟩ ⟨by rw [hf1]; exact hrm.1, by rw [hf2]; exact hrm.2⟩) ⟨e_blind, e_pre hm hb hr⟩ rfl (by rw [List.length_reverse, List.length_take]; omega) hv.1.1 (by rw [List.reverse_reverse, List.take_append_drop]) (lv_room hl4) hd ⟨hc1, hc2⟩
theorem e_w_init {K : e_K} {x k' n ci : Nat} (ho : (e_y k).cls = e_cn o) (hd : decode (e_c k) pc = .ok (.invokespecial x, 3)) (hx : e_MT o x = some (2, k', n, ci)) (hrm : e_rmk k k' = true) (hK : ∀ lv st h, K lv st h → e_Wm g k Ψ (pc + 3) lv st h)
    (q : e_p1r (st.drop n) (fun a r => e_l4 r ∧ e_Sc g k' (.ref a :: (st.take n).reverse) h (fun rv h' => K lv (e_ps rv r) h'))) : e_Wm g k Ψ pc lv st h := by
  obtain ⟨a, r, hst, hl4, q⟩ := e_p1r_spec q
  obtain ⟨ps, hc⟩ := e_MT_ok hx
  simp only [e_MTc, Bool.and_eq_true, decide_eq_true_eq, beq_iff_eq] at hc
  obtain ⟨⟨⟨⟨⟨c1, c2⟩, c3⟩, c4⟩, c5⟩, c6⟩ := hc
  simp only [e_rmk, Bool.and_eq_true, decide_eq_true_eq] at hrm
  obtain ⟨t1, t2⟩ := e_tk hst
  obtain ⟨m1, -, -, m2⟩ := e_mw c1
  obtain ⟨m3, m4⟩ := m2 c2
  refine e_w_cal hK (fun {mc ms rv h1 p e s m args below meth c H locs ls R cells slots} hM hm hb hr hv hf1 hf2 hc1 hc2 => ?_) q
  exact va_runI (As := (st.take n).reverse) (rest := r) ⟨hm.1, hm.2.1, hm.2.2.1, hm.own ho, hm.2.2.2.2.2.1⟩ hM (cwI n hm.2.2.2.2.2.1 (e_goodIn c1) (e_rt_rw c6) rfl rfl (hm.w m1) (hm.w (e_tb_of c3 c4)) (hm.w m3) m4 ⟨(e_nMH c1).1, (e_nMH c1).2, c5⟩ ⟨by rw [hf1]; exact hrm.1, by rw [hf2]; exact hrm.2⟩) ⟨e_blind, e_pre hm hb hr⟩ rfl t2 hv.1.1 t1 (lv_room hl4) hd ⟨hc1, hc2⟩
theorem e_nest_of {i : Nat} {a : String} {x : Nat} {y : MethodName} {b : String} (h : lw_tbl[i]? = some (.methodLinkNest a x y b)) : Cond.methodLinkNest a x y b ∈ e_nest := List.mem_filter.mpr ⟨List.mem_of_getElem? h, rfl⟩
theorem e_w_statN {K : e_K} {x k' n ci : Nat} (ho : (e_y k).cls = e_cn o) (hd : decode (e_c k) pc = .ok (.invokestatic x, 3)) (hx : e_MT o x = some (3, k', n, ci)) (hrm : e_rmk k k' = true) (hK : ∀ lv st h, K lv st h → e_Wm g k Ψ (pc + 3) lv st h)
    (q : n ≤ st.length ∧ e_l4 (st.drop n) ∧ e_Sc g k' (st.take n).reverse h (fun rv h' => K lv (e_ps rv (st.drop n)) h')) : e_Wm g k Ψ pc lv st h := by
  obtain ⟨hln, hl4, q⟩ := q
  obtain ⟨ps, hc⟩ := e_MT_ok hx
  simp only [e_MTc, Bool.and_eq_true, decide_eq_true_eq, beq_iff_eq] at hc
  obtain ⟨⟨⟨c1, c2⟩, c3⟩, c5⟩ := hc
  simp only [e_rmk, Bool.and_eq_true, decide_eq_true_eq] at hrm
  obtain ⟨m1, -, m2, -⟩ := e_mw c1
  have m3 := m2 c2
  refine e_w_cal hK (fun {mc ms rv h1 p e s m args below meth c H locs ls R cells slots} hM hm hb hr hv hf1 hf2 hc1 hc2 => ?_) q
  exact va_runSN (As := (st.take n).reverse) (rest := st.drop n) ⟨hm.1, hm.2.1, hm.2.2.1, hm.own ho, hm.2.2.2.2.2.1⟩ hM ⟨va_cnB n hm.2.2.2.2.2.1 (e_goodIn c1) rfl rfl rfl (hm.2.2.2.2.2.2.2.2.2.1 _ (e_nest_of c3)) (hm.w m1) ⟨(e_nMH c1).1, (e_nMH c1).2, c5⟩ ⟨by rw [hf1]; exact hrm.1, by rw [hf2]; exact hrm.2⟩, hm.w m3, trivial⟩ ⟨e_blind, e_pre hm hb hr⟩ rfl (by rw [List.length_reverse, List.length_take]; omega) hv.1.1 (by rw [List.reverse_reverse, List.take_append_drop]) (lv_room hl4) hd ⟨hc1, hc2⟩
theorem e_w_initN {K : e_K} {x k' n ci : Nat} (ho : (e_y k).cls = e_cn o) (hd : decode (e_c k) pc = .ok (.invokespecial x, 3)) (hx : e_MT o x = some (4, k', n, ci)) (hrm : e_rmk k k' = true) (hK : ∀ lv st h, K lv st h → e_Wm g k Ψ (pc + 3) lv st h)
    (q : e_p1r (st.drop n) (fun a r => e_l4 r ∧ e_Sc g k' (.ref a :: (st.take n).reverse) h (fun rv h' => K lv (e_ps rv r) h'))) : e_Wm g k Ψ pc lv st h := by
  obtain ⟨a, r, hst, hl4, q⟩ := e_p1r_spec q
  obtain ⟨ps, hc⟩ := e_MT_ok hx
  simp only [e_MTc, Bool.and_eq_true, decide_eq_true_eq, beq_iff_eq] at hc
  obtain ⟨⟨⟨⟨c1, c2⟩, c3⟩, c5⟩, c6⟩ := hc
  simp only [e_rmk, Bool.and_eq_true, decide_eq_true_eq] at hrm
  obtain ⟨t1, t2⟩ := e_tk hst
  obtain ⟨m1, -, -, m2⟩ := e_mw c1
  obtain ⟨m3, m4⟩ := m2 c2
  refine e_w_cal hK (fun {mc ms rv h1 p e s m args below meth c H locs ls R cells slots} hM hm hb hr hv hf1 hf2 hc1 hc2 => ?_) q
  exact va_runIN (As := (st.take n).reverse) (rest := r) ⟨hm.1, hm.2.1, hm.2.2.1, hm.own ho, hm.2.2.2.2.2.1⟩ hM ⟨va_cnB n hm.2.2.2.2.2.1 (e_goodIn c1) (e_rt_rw c6) rfl rfl (hm.2.2.2.2.2.2.2.2.2.1 _ (e_nest_of c3)) (hm.w m1) ⟨(e_nMH c1).1, (e_nMH c1).2, c5⟩ ⟨by rw [hf1]; exact hrm.1, by rw [hf2]; exact hrm.2⟩, m4, hm.w m3⟩ ⟨e_blind, e_pre hm hb hr⟩ rfl t2 hv.1.1 t1 (lv_room hl4) hd ⟨hc1, hc2⟩
theorem e_w_obj {K : e_K} {x k' n ci : Nat} (ho : (e_y k).cls = e_cn o) (hd : decode (e_c k) pc = .ok (.invokespecial x, 3)) (hx : e_MT o x = some (5, k', n, ci)) (hf : 1 ≤ e_fr k) (hlo : 20 ≤ e_lo k) (hK : ∀ lv st h, K lv st h → e_Wm g k Ψ (pc + 3) lv st h)
    (q : e_p1r st (fun _ r => e_l4 r ∧ K lv r h)) : e_Wm g k Ψ pc lv st h := by
  replace q := e_p1r_spec q
  obtain ⟨a, r, rfl, hl4, q⟩ := q
  obtain ⟨ps, hc⟩ := e_MT_ok hx
  simp only [e_MTc, Bool.and_eq_true, decide_eq_true_eq] at hc
  have hl4' : (r.map fun v => v.category).sum ≤ 8 := hl4
  obtain ⟨r2, h', k1, k2, k3, k4⟩ := hK _ _ _ q
  refine ⟨r2, h', k1, k2, k3, ?_⟩
  intro u0 hu0 p e s m args below meth c H locs ls hm hs hl hb hr hv
  exact W.objInit hm.1 hm.2.1 (hm.own ho) (hm.w (e_tb_of hc.1 hc.2)) (hm.w e_wOi) (hm.w e_wOc) rfl (hv.1.1.trans hm.2.2.1.symm) rfl hd hf (by show 2 * 0 + _ + 12 ≤ e_lo k; omega) (k4 u0 hu0 p e s m args below meth c H locs ls hm hs hl hb hr hv)
theorem e_w_max {K : e_K} {x k' n ci : Nat} (ho : (e_y k).cls = e_cn o) (hd : decode (e_c k) pc = .ok (.invokestatic x, 3)) (hx : e_MT o x = some (6, k', n, ci)) (hf : 1 ≤ e_fr k) (hlo : 21 ≤ e_lo k) (hK : ∀ lv st h, K lv st h → e_Wm g k Ψ (pc + 3) lv st h)
    (q : e_p1i st (fun y r => e_p1i r (fun x r => e_l4 r ∧ K lv (.int (if x < y then y else x) :: r) h))) : e_Wm g k Ψ pc lv st h := by
  replace q := e_p1i_spec q
  obtain ⟨y, r, rfl, q⟩ := q
  replace q := e_p1i_spec q
  obtain ⟨z, r, rfl, hl4, q⟩ := q
  obtain ⟨ps, hc⟩ := e_MT_ok hx
  simp only [e_MTc, Bool.and_eq_true, decide_eq_true_eq] at hc
  have hl4' : (r.map fun v => v.category).sum ≤ 8 := hl4
  obtain ⟨r2, h', k1, k2, k3, k4⟩ := hK _ _ _ q
  refine ⟨r2, h', k1, k2, k3, ?_⟩
  intro u0 hu0 p e s m args below meth c H locs ls hm hs hl hb hr hv
  exact va_mmax hm.1 hm.2.1 (hm.2.2.1.trans hv.1.1.symm) (hm.own ho) (hm.w (e_tb_of hc.1 hc.2)) (hm.w e_wMaxs) (hm.w e_wMi) (hm.w e_wMaxc) hf (by show _ ≤ e_lo k; omega) (by show _ ≤ h'.2.1 - s.heap.size; omega) (by show _ ≤ h'.2.2 - u0; omega) hd (k4 u0 hu0 p e s m args below meth c H locs ls hm hs hl hb hr hv)
theorem e_w_min {K : e_K} {x k' n ci : Nat} (ho : (e_y k).cls = e_cn o) (hd : decode (e_c k) pc = .ok (.invokestatic x, 3)) (hx : e_MT o x = some (7, k', n, ci)) (hf : 1 ≤ e_fr k) (hlo : 21 ≤ e_lo k) (hK : ∀ lv st h, K lv st h → e_Wm g k Ψ (pc + 3) lv st h)
    (q : e_p1i st (fun y r => e_p1i r (fun x r => e_l4 r ∧ K lv (.int (if y < x then y else x) :: r) h))) : e_Wm g k Ψ pc lv st h := by
  replace q := e_p1i_spec q
  obtain ⟨y, r, rfl, q⟩ := q
  replace q := e_p1i_spec q
  obtain ⟨z, r, rfl, hl4, q⟩ := q
  obtain ⟨ps, hc⟩ := e_MT_ok hx
  simp only [e_MTc, Bool.and_eq_true, decide_eq_true_eq] at hc
  have hl4' : (r.map fun v => v.category).sum ≤ 8 := hl4
  obtain ⟨r2, h', k1, k2, k3, k4⟩ := hK _ _ _ q
  refine ⟨r2, h', k1, k2, k3, ?_⟩
  intro u0 hu0 p e s m args below meth c H locs ls hm hs hl hb hr hv
  exact va_mmin hm.1 hm.2.1 (hm.2.2.1.trans hv.1.1.symm) (hm.own ho) (hm.w (e_tb_of hc.1 hc.2)) (hm.w e_wMins) (hm.w e_wMi) (hm.w e_wMinc) hf (by show _ ≤ e_lo k; omega) (by show _ ≤ h'.2.1 - s.heap.size; omega) (by show _ ≤ h'.2.2 - u0; omega) hd (k4 u0 hu0 p e s m args below meth c H locs ls hm hs hl hb hr hv)
theorem e_w_copy {K : e_K} {x k' n ci : Nat} (hg : e_GK g) (ho : (e_y k).cls = e_cn o) (hd : decode (e_c k) pc = .ok (.invokestatic x, 3)) (hx : e_MT o x = some (8, k', n, ci)) (hf : 1 ≤ e_fr k) (hlo : 26 ≤ e_lo k) (hK : ∀ lv st h, K lv st h → e_Wm g k Ψ (pc + 3) lv st h)
    (q : e_p1i st (fun n r => e_p1i r (fun dp r => e_p1r r (fun d r => e_p1i r (fun sp r => e_p1r r (fun s r =>
      e_l4 r ∧ e_gI h s 0 (fun ns f => e_gI h d 0 (fun nd f2 => ¬ n < 0 ∧ ¬ sp < 0 ∧ ¬ dp < 0 ∧ sp.toNatClampNeg + n.toNatClampNeg ≤ ns ∧ dp.toNatClampNeg + n.toNatClampNeg ≤ nd ∧
        K lv r (e_wr h d (e_I 0 nd (e_cpy f f2 sp.toNatClampNeg dp.toNatClampNeg n.toNatClampNeg))))))))))) : e_Wm g k Ψ pc lv st h := by
  replace q := e_p1i_spec q
  obtain ⟨n, r, rfl, q⟩ := q
  replace q := e_p1i_spec q
  obtain ⟨dp, r, rfl, q⟩ := q
  replace q := e_p1r_spec q
  obtain ⟨a, r, rfl, q⟩ := q
  replace q := e_p1i_spec q
  obtain ⟨sp, r, rfl, q⟩ := q
  replace q := e_p1r_spec q
  obtain ⟨a0, r, rfl, hl4, q⟩ := q
  obtain ⟨n0, f, ha0, q⟩ := e_gI_spec q
  obtain ⟨n1, f2, ha1, h3, h1, h2, h4, h5, q⟩ := e_gI_spec q
  obtain ⟨ps, hc⟩ := e_MT_ok hx
  simp only [e_MTc, Bool.and_eq_true, decide_eq_true_eq] at hc
  have hl4' : (r.map fun v => v.category).sum ≤ 8 := hl4
  obtain ⟨rv, h', w1, w2, w3, w4⟩ := hK _ _ _ q
  refine ⟨rv, h', w1, w2, w3, ?_⟩
  intro u0 hu0 p e s m args below meth c H locs ls hm hs hl hb hr hv
  have kk : ∀ (H' : Heap) (locs' : List Loc) (ls' : Array Slot), (∀ q ∈ locs', e_B g ≤ q.base) → (∀ q : Nat, q < e_B g → H'[q]? = g.2.1.heap[q]?) → e_rep g (e_wr h a (e_I 0 n1 (e_cpy f f2 sp.toNatClampNeg dp.toNatClampNeg n.toNatClampNeg))) H' → e_lv ls' (e_mL k) lv → W p g.1 e (e_rm k (h'.2.1 - s.heap.size) (h'.2.2 - u0)) s m args below meth c H' locs' (h.2.1 - s.heap.size) (h.2.2 - u0) (MQ below (e_Qm g rv h') args s (h'.2.1 - s.heap.size) (h'.2.2 - u0) (fun q => e_B g ≤ q)) (F0 m (pc + 3) ls' r) := fun H' locs' ls' z1 z2 z3 z4 => w4 u0 hu0 p e s m args below meth c H' locs' ls' hm hs z1 z2 z3 z4
  have hr1 : (e_rm k (h'.2.1 - s.heap.size) (h'.2.2 - u0)).frames = e_fr k := rfl
  have hr2 : (e_rm k (h'.2.1 - s.heap.size) (h'.2.2 - u0)).locals = e_lo k := rfl
  have nn : ∀ z : Int32, ¬ z < 0 → z.toInt = (z.toNatClampNeg : Int) := by
    intro z hz
    have hz0 : (0 : Int) ≤ z.toInt := by
      have := Int32.not_lt.mp hz
      simpa using Int32.le_iff_toInt_le.mp this
    show z.toInt = ((z.toInt.toNat : Nat) : Int)
    omega
  obtain ⟨hBa0, hc0⟩ := e_arI hr ha0
  obtain ⟨hBa, hc1⟩ := e_arI hr ha1
  intro T hT X
  obtain ⟨-, k0, hk0, cm0, hkk0⟩ := (e_arT (hm.K hg) 0 (by decide)).1 n0 (fun j => .int (f j))
  obtain ⟨-, k1, hk1, cm1, hkk1⟩ := (e_arT (hm.K hg) 0 (by decide)).1 n1 (fun j => .int (f2 j))
  obtain ⟨vm', X', step⟩ := X.arraycopy hm.1 (hm.own ho) (hm.w (e_tb_of hc.1 hc.2)) (hm.w e_wAn) (hm.w e_wAs) (hm.w e_wAi) (src := a0) (dst := a) (cs := vp_cell (g.2.2.2.1 0) (n0, .inl f)) (cd := vp_cell (g.2.2.2.1 0) (n1, .inl f2)) (srcPos := sp) (destPos := dp) (n := n) (by rw [hT]; exact hc0) (by rw [hT]; exact hc1)
    (fun _ h => by cases h) (fun _ h => by cases h) (fun h => by cases h) (fun h => by cases h) hk0 hk1 hkk0 hkk1 (by rfl) h1 h2 h3
    (by rw [nn sp h1, nn n h3]; show ¬ _ > ((arrV _ n0 (fun j => .int (f j))).slots.size : Int); rw [arrV_size]; omega)
    (by rw [nn dp h2, nn n h3]; show ¬ _ > ((arrV _ n1 (fun j => .int (f2 j))).slots.size : Int); rw [arrV_size]; omega)
    (fun vm₁ _ i hi => by
      have e : (vp_cell (g.2.2.2.1 0) (n0, .inl f)).slots.getD (sp.toNatClampNeg + i) .null = .int (f (sp.toNatClampNeg + i)) := by
        show (arrV _ n0 (fun j => .int (f j))).slots.getD _ _ = _
        rw [Array.getD_eq_getD_getElem?, arrV_read _ _ (by omega)]
        rfl
      refine ⟨?_, ?_⟩
      · rw [e]; rfl
      · rw [e]; exact trivial)
    (g := F0 m pc ls (.int n :: .int dp :: .ref a :: .int sp :: .ref a0 :: r)) rfl (hv.1.1.trans hm.2.2.1.symm) (rest := r) rfl (by rw [hm.2.1]; exact hd) (by rw [hr1]; exact hf) (by rw [hr2]; show 2 * 0 + _ + 18 ≤ _; omega)
  have e1 : copied (vp_cell (g.2.2.2.1 0) (n0, .inl f)) (vp_cell (g.2.2.2.1 0) (n1, .inl f2)) sp dp n = vp_cell (g.2.2.2.1 0) (n1, .inl (va_cpy f f2 sp.toNatClampNeg dp.toNatClampNeg n.toNatClampNeg)) := va_copied (fun z => .int z) _ _ f f2 h4
  rw [e1] at X' step
  have hl2 : a < H.size := (Array.getElem?_eq_some_iff.mp hc1).1
  have hheap : ((T.setVm vm').setCell a (vp_cell (g.2.2.2.1 0) (n1, .inl (va_cpy f f2 sp.toNatClampNeg dp.toNatClampNeg n.toNatClampNeg)))).heap = H.setIfInBounds a (vp_cell (g.2.2.2.1 0) (n1, .inl (va_cpy f f2 sp.toNatClampNeg dp.toNatClampNeg n.toNatClampNeg))) := by rw [← hT]; rfl
  have oq : ∀ q : Nat, q ≠ a → (H.setIfInBounds a (vp_cell (g.2.2.2.1 0) (n1, .inl (va_cpy f f2 sp.toNatClampNeg dp.toNatClampNeg n.toNatClampNeg))))[q]? = H[q]? := fun q hq => by simp [Array.getElem?_setIfInBounds, Ne.symm hq]
  obtain ⟨t, a1, b1⟩ := kk _ _ ls (fun q hq => by
      rcases List.mem_append.mp hq with h | h
      · exact hl q h
      · obtain ⟨z, -, hz⟩ := List.mem_map.mp h
        rw [← hz]
        exact hBa) (e_below hb hBa oq) (hr.wr ha1 (fun x hx => by cases hx) (by simp) oq (fun ar => (show (H.setIfInBounds a _)[a]? = some _ by simp [Array.getElem?_setIfInBounds, hl2]; rfl))) hv _ hheap X'
  exact ⟨t, step t a1, b1⟩
end CA
