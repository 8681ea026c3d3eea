/-! lists of the library: arrays of objects, new ones, copying, statics, calls -/
/-- objects of the class may lie in an array of objects -/
def e_GC (g : e_G) : Prop := ∀ (ci : Nat) (r : vw_C), 1 ≤ ci → vwCl[ci]? = some r → va_Nw (.castable r.1 "java/lang/Object") g.2.1
section JB
variable {g : e_G} {M : j_M} {Ψ : e_Q} {pc : Nat} {lv : e_Lv} {st : List Value} {h : e_Hp}
theorem r_asg {p : Program} {s : State} {m : MethodId} {args : Array Value} {meth : Method} {c : Code} (hC0 : e_GC g) (hm : j_mc g M p s m args meth c) {ci : Nat} {r : vw_C} (h1 : 1 ≤ ci) (hC : vwCl[ci]? = some r) (comp c0 : ClassId) (e1 : s.vm.findClass "java/lang/Object" = some comp) (e2 : s.vm.findClass r.1 = some c0) : s.vm.assignable c0 comp = true := by
  have hal := hm.2.2.2.2.2.2.2.2.1
  obtain ⟨c1, t1, f1, f2, f3⟩ := Cond.castable_spec (va_Nw.use (A := #[]) rfl (hC0 ci r h1 hC))
  rw [hal.findClass] at e1 e2
  rw [hal.assignable]
  cases e1.symm.trans f2
  cases e2.symm.trans f1
  exact f3
theorem r_aald {b n : Nat} {i : Int32} {f : Nat → Option Nat} {v : Value} (hg : e_GK g) (hd : decode M.1.2.1 pc = .ok (.aaload, 1)) (hb4 : h.1 b = some (e_R 4 n f)) (hin : vp_in i n) (hv0 : va_rf (f i.toNatClampNeg) = v) (q : j_Wm g M Ψ (pc + 1) lv (v :: st) h) : j_Wm g M Ψ pc lv (.int i :: .ref b :: st) h := by
  subst hv0
  refine j_hstep (Nat.le_refl _) (Nat.le_refl _) (fun {u0 p e s m args below meth c H locs ls R Q} _ _ hu0 hm hs hl hb hr hv _ _ kk => ?_) q
  have hT := (e_arT (hm.K hg) 4 (by decide)).1 n (fun j => va_rf (f j))
  exact W.aald (v := va_rf (f i.toNatClampNeg)) hm.1 hm.2.1 (e_arR hr hb4).2 hT rfl (fun q => by cases q) (e_vin hin) (arrV_read _ _ (e_vlt hin)) rfl rfl hd (kk H locs ls hl hb hr hv)
theorem r_aast {b v n ci : Nat} {i : Int32} {f : Nat → Option Nat} {V : Nat → Value} (hg : e_GK g) (hC0 : e_GC g) (hd : decode M.1.2.1 pc = .ok (.aastore, 1)) (hb4 : h.1 b = some (e_R 4 n f)) (hav : h.1 v = some (e_O ci V)) (h1 : 1 ≤ ci) (hin : vp_in i n) (q : j_Wm g M Ψ (pc + 1) lv st (e_wr h b (e_R 4 n (va_up f i.toNatClampNeg (some v))))) : j_Wm g M Ψ pc lv (.ref v :: .int i :: .ref b :: st) h := by
  refine j_hstep (h2 := e_wr h b (e_R 4 n (va_up f i.toNatClampNeg (some v)))) (Nat.le_refl _) (Nat.le_refl _) (fun {u0 p e s m args below meth c H locs ls R Q} _ _ hu0 hm hs hl hb hr hv _ _ kk => ?_) q
  obtain ⟨hBa, hc⟩ := e_arR hr hb4
  obtain ⟨-, C, hC, cellV, g1, g2, g3, -⟩ := e_obj hr hav
  have hcls := ((hm.K hg).1 _ C hC).2
  obtain ⟨kA, comp, k1, k2, k3, -⟩ := (e_arT (hm.K hg) 4 (by decide)).2
  obtain ⟨kE, hkE, -⟩ := Vm.findClass_spec k3
  obtain ⟨kC, hkC, -⟩ := hcls.2
  refine W.aast hm.1 hm.2.1 hc (fun q h => by cases h) (fun h => by cases h) k1 k2 rfl hkE ⟨fun q => hin (Or.inl q), by rw [arrV_size]; exact e_vlt hin⟩ g1 (fun q h => by rw [g3] at h; cases h) (by rw [g2]; exact hkC) (by rw [g2]; exact r_asg hC0 hm h1 hC _ _ k3 hcls.1) rfl rfl hd fun H1 e z oq => ?_
  exact kk H1 _ ls (e_locs hl hBa) (e_below hb hBa oq) (hr.wr hb4 (fun x hx => by cases hx) z oq (fun ar => by
    have e2 := e_upR (g.2.2.2.1 4) n f i.toNatClampNeg (some v)
    rw [show (Value.ref v) = va_rf (some v) from rfl, e2] at e
    exact e)) hv
theorem r_aastN {b n : Nat} {i : Int32} {f : Nat → Option Nat} (hg : e_GK g) (hd : decode M.1.2.1 pc = .ok (.aastore, 1)) (hb4 : h.1 b = some (e_R 4 n f)) (hin : vp_in i n) (q : j_Wm g M Ψ (pc + 1) lv st (e_wr h b (e_R 4 n (va_up f i.toNatClampNeg none)))) : j_Wm g M Ψ pc lv (.null :: .int i :: .ref b :: st) h := by
  refine j_hstep (h2 := e_wr h b (e_R 4 n (va_up f i.toNatClampNeg none))) (Nat.le_refl _) (Nat.le_refl _) (fun {u0 p e s m args below meth c H locs ls R Q} _ _ hu0 hm hs hl hb hr hv _ _ kk => ?_) q
  obtain ⟨hBa, hc⟩ := e_arR hr hb4
  have hT := (e_arT (hm.K hg) 4 (by decide)).1 n (fun j => va_rf (f j))
  refine va_WaastN (C := "java/lang/Object") hm.1 hm.2.1 hc hT (fun q => by cases q) (e_vin hin) rfl rfl hd fun H1 e z oq => ?_
  exact kk H1 _ ls (e_locs hl hBa) (e_below hb hBa oq) (hr.wr hb4 (fun x hx => by cases hx) z oq (fun ar => by
    have e2 := e_upR (g.2.2.2.1 4) n f i.toNatClampNeg none
    rw [show Value.null = va_rf none from rfl, e2] at e
    exact e)) hv
theorem r_alen {b n : Nat} {f : Nat → Option Nat} (hg : e_GK g) (hd : decode M.1.2.1 pc = .ok (.arraylength, 1)) (hb4 : h.1 b = some (e_R 4 n f)) (q : j_Wm g M Ψ (pc + 1) lv (.int (nI n) :: st) h) : j_Wm g M Ψ pc lv (.ref b :: st) h := by
  refine j_hstep (Nat.le_refl _) (Nat.le_refl _) (fun {u0 p e s m args below meth c H locs ls R Q} _ _ hu0 hm hs hl hb hr hv _ _ kk => ?_) q
  have hT := (e_arT (hm.K hg) 4 (by decide)).1 n (fun j => va_rf (f j))
  exact W.alen (n := nI n) hm.1 hm.2.1 (e_arR hr hb4).2 hT (by rw [arrV_size] <;> rfl) rfl rfl hd (kk H locs ls hl hb hr hv)
theorem r_alenS (hg : e_GK g) (hd : decode M.1.2.1 pc = .ok (.arraylength, 1)) (q : j_Wm g M Ψ (pc + 1) lv (.int 0 :: st) h) : j_Wm g M Ψ pc lv (.ref (g.2.2.2.2 0) :: st) h := by
  refine j_hstep (Nat.le_refl _) (Nat.le_refl _) (fun {u0 p e s m args below meth c H locs ls R Q} _ _ hu0 hm hs hl hb hr hv _ _ kk => ?_) q
  have hsz := hr.1
  have hS : va_S (e_A g) s.heap H locs := ⟨by rw [hsz]; exact hs, fun q h1 h2 => by
    have hq : q < e_B g := Nat.not_le.mp h2
    rw [hb q hq]; exact (hm.2.2.2.2.2.2.2.2.2.2.1 q hq).symm, hl⟩
  have hkp : ∀ a : Nat, a < g.2.1.heap.size → ¬ e_A g a → s.heap[a]? = g.2.1.heap[a]? := fun a _ h2 => hm.2.2.2.2.2.2.2.2.2.2.1 a (Nat.not_le.mp h2)
  have hal := hm.2.2.2.2.2.2.2.2.1
  obtain ⟨z1, t1, z2, t2, z3, t3, -⟩ := hg.2.2.2.2.2.2
  exact va_tlen hm.1 hm.2.1 ((t3.moved hal).kept hkp) hS rfl hd (kk H locs ls hl hb hr hv)
theorem r_gets {x : Nat} (hg : e_GK g) (ho : M.1.1.cls = "java/util/ArrayList") (hw : Cond.fieldLink "java/util/ArrayList" x "java/util/ArrayList" "DEFAULTCAPACITY_EMPTY_ELEMENTDATA" "[Ljava/lang/Object;" ∈ e_tb) (hd : decode M.1.2.1 pc = .ok (.getstatic x, 3)) (q : j_Wm g M Ψ (pc + 3) lv (.ref (g.2.2.2.2 0) :: st) h) : j_Wm g M Ψ pc lv st h := by
  refine j_hstep (Nat.le_refl _) (Nat.le_refl _) (fun {u0 p e s m args below meth c H locs ls R Q} _ _ hu0 hm hs hl hb hr hv _ _ kk => ?_) q
  have hsz := hr.1
  have hS : va_S (e_A g) s.heap H locs := ⟨by rw [hsz]; exact hs, fun q h1 h2 => by
    have hq : q < e_B g := Nat.not_le.mp h2
    rw [hb q hq]; exact (hm.2.2.2.2.2.2.2.2.2.2.1 q hq).symm, hl⟩
  have hkp : ∀ a : Nat, a < g.2.1.heap.size → ¬ e_A g a → s.heap[a]? = g.2.1.heap[a]? := fun a _ h2 => hm.2.2.2.2.2.2.2.2.2.2.1 a (Nat.not_le.mp h2)
  have hal := hm.2.2.2.2.2.2.2.2.1
  obtain ⟨z1, t1, z2, t2, z3, t3, -⟩ := hg.2.2.2.2.2.2
  exact va_gets hm.1 hm.2.1 ((z3.moved hal).kept hkp) hS (hm.own ho) (ref := "java/util/ArrayList") (hm.w hw) (fun _ h => h) hd (kk H locs ls hl hb hr hv)
theorem r_anew {own : String} {x : Nat} {n : Int32} (hg : e_GK g) (ho : M.1.1.cls = own) (hw : Cond.classLink own x "java/lang/Object" ∈ e_tb) (hd : decode M.1.2.1 pc = .ok (.anewarray x, 3)) (hn : ¬ n < 0) (hn2 : n.toNatClampNeg ≤ 65536) (q : j_Wm g M Ψ (pc + 3) lv (.ref h.2.1 :: st) (e_al h (e_R 4 n.toNatClampNeg (fun _ => none)) n.toNatClampNeg)) : j_Wm g M Ψ pc lv (.int n :: st) h := by
  refine j_hstep (h2 := e_al h (e_R 4 n.toNatClampNeg (fun _ => none)) n.toNatClampNeg) (Nat.le_succ _) (Nat.le_add_right _ _) (fun {u0 p e s m args below meth c H locs ls R Q} _ _ hu0 hm hs hl hb hr hv hc1 hc2 kk => ?_) q
  have hsz := hr.1
  have hc1' : h.2.1 + 1 - s.heap.size ≤ R.cells := hc1
  have hc2' : h.2.2 + n.toNatClampNeg - u0 ≤ R.slots := hc2
  have hAO : va_AO "java/lang/Object" s := hg.2.2.2.1.moved hm.2.2.2.2.2.2.2.2.1
  refine W.anew hm.1 hm.2.1 (hm.own ho) (hm.w hw) (va_AO.use hAO) rfl hd rfl hn (by omega) (by omega) (by omega) fun cA kA comp f1 f2 f3 f4 => ?_
  generalize hH1 : H.push ({ cls := cA, slots := Array.replicate n.toNatClampNeg .null, vm := .none } : Cell) = H1
  have z1 : H1.size = H.size + 1 := by rw [← hH1, Array.size_push]
  have e1 : H1[H.size]? = some (arrV cA n.toNatClampNeg (fun _ => .null)) := by rw [← hH1, Array.getElem?_push_size, ← arrV_new]
  have o1 : ∀ q : Nat, q < H.size → H1[q]? = H[q]? := fun q hq => by rw [← hH1, Array.getElem?_push, if_neg (Nat.ne_of_lt hq)]
  have hcA : cA = g.2.2.2.1 4 := by
    obtain ⟨_, _, -, -, -, k4⟩ := (e_arT (hm.K hg) 4 (by decide)).2
    exact Option.some.inj (f1.symm.trans k4)
  subst hcA
  have hB : e_B g ≤ H.size := by rw [hsz]; exact Nat.le_trans hm.2.2.2.2.2.2.2.2.2.2.2 hs
  have key := kk H1 locs ls hl (fun q hq => (o1 q (by omega)).trans (hb q hq)) (hr.al hB (fun x hx => by cases hx) z1 o1 (fun ar => e1)) hv
  have a1 : h.2.1 - s.heap.size + 1 = (e_al h (e_R 4 n.toNatClampNeg (fun _ => none)) n.toNatClampNeg).2.1 - s.heap.size := by show _ = h.2.1 + 1 - s.heap.size; omega
  have a2 : h.2.2 - u0 + n.toNatClampNeg = (e_al h (e_R 4 n.toNatClampNeg (fun _ => none)) n.toNatClampNeg).2.2 - u0 := by show _ = h.2.2 + n.toNatClampNeg - u0; omega
  rw [a1, a2]
  rw [← hsz] at key
  exact key
theorem r_copy {own : String} {x b0 b1 n0 n1 : Nat} {sp dp n : Int32} {f f2 : Nat → Option Nat} (hg : e_GK g) (hC0 : e_GC g) (ho : M.1.1.cls = own) (hw : Cond.methodLink own x arraycopyName ∈ e_tb) (hd : decode M.1.2.1 pc = .ok (.invokestatic x, 3)) (hf : 1 ≤ M.2.1) (hlo : 26 ≤ M.2.2) (hl4 : e_l4 st)
    (ha0 : h.1 b0 = some (e_R 4 n0 f)) (ha1 : h.1 b1 = some (e_R 4 n1 f2)) (h3 : ¬ n < 0) (h1 : ¬ sp < 0) (h2 : ¬ dp < 0) (h4 : sp.toNatClampNeg + n.toNatClampNeg ≤ n0) (h5 : dp.toNatClampNeg + n.toNatClampNeg ≤ n1)
    (hel : ∀ i : Nat, i < n.toNatClampNeg → ∀ y : Nat, f (sp.toNatClampNeg + i) = some y → ∃ (cy : Nat) (Vy : Nat → Value), 1 ≤ cy ∧ h.1 y = some (e_O cy Vy))
    (q : j_Wm g M Ψ (pc + 3) lv st (e_wr h b1 (e_R 4 n1 (va_cpy f f2 sp.toNatClampNeg dp.toNatClampNeg n.toNatClampNeg)))) : j_Wm g M Ψ pc lv (.int n :: .int dp :: .ref b1 :: .int sp :: .ref b0 :: st) h := by
  have hl4' : (st.map fun v => v.category).sum ≤ 8 := hl4
  refine j_hstep (h2 := e_wr h b1 (e_R 4 n1 (va_cpy f f2 sp.toNatClampNeg dp.toNatClampNeg n.toNatClampNeg))) (Nat.le_refl _) (Nat.le_refl _) (fun {u0 p e s m args below meth c H locs ls R Q} hr1 hr2 hu0 hm hs hl hb hr hv _ _ kk => ?_) q
  have nn : ∀ z : Int32, ¬ z < 0 → z.toInt = (z.toNatClampNeg : Int) := by
    intro z hz
    have hz0 : (0 : Int) ≤ z.toInt := by
      have := Int32.not_lt.mp hz
      simpa using Int32.le_iff_toInt_le.mp this
    show z.toInt = ((z.toInt.toNat : Nat) : Int)
    omega
  obtain ⟨hBa0, hc0⟩ := e_arR hr ha0
  obtain ⟨hBa, hc1⟩ := e_arR hr ha1
  intro T hT X
  obtain ⟨-, k0, hk0, cm0, hkk0⟩ := (e_arT (hm.K hg) 4 (by decide)).1 n0 (fun j => va_rf (f j))
  obtain ⟨-, k1, hk1, cm1, hkk1⟩ := (e_arT (hm.K hg) 4 (by decide)).1 n1 (fun j => va_rf (f2 j))
  obtain ⟨vm', X', step⟩ := X.arraycopy hm.1 (hm.own ho) (hm.w hw) (hm.w e_wAn) (hm.w e_wAs) (hm.w e_wAi) (src := b0) (dst := b1) (cs := arrV (g.2.2.2.1 4) n0 (fun j => va_rf (f j))) (cd := arrV (g.2.2.2.1 4) n1 (fun j => va_rf (f2 j))) (srcPos := sp) (destPos := dp) (n := n) (by rw [hT]; exact hc0) (by rw [hT]; exact hc1)
    (fun _ h => by cases h) (fun _ h => by cases h) (fun h => by cases h) (fun h => by cases h) hk0 hk1 hkk0 hkk1 rfl h1 h2 h3
    (by rw [nn sp h1, nn n h3, arrV_size]; omega)
    (by rw [nn dp h2, nn n h3, arrV_size]; omega)
    (fun vm₁ hal i hi => by
      have e : (arrV (g.2.2.2.1 4) n0 (fun j => va_rf (f j))).slots.getD (sp.toNatClampNeg + i) .null = va_rf (f (sp.toNatClampNeg + i)) := by
        rw [Array.getD_eq_getD_getElem?, arrV_read _ _ (by omega)]
        rfl
      rw [e]
      cases hy : f (sp.toNatClampNeg + i) with
      | none => exact ⟨rfl, trivial⟩
      | some y =>
        obtain ⟨cy, Vy, cy1, hyO⟩ := hel i hi y hy
        obtain ⟨-, C, hC, cellV, g1, g2, g3, -⟩ := e_obj hr hyO
        have hcls := ((hm.K hg).1 _ C hC).2
        obtain ⟨kA, comp, r1, r2, r3, -⟩ := (e_arT (hm.K hg) 4 (by decide)).2
        cases hk1.symm.trans r1
        cases hkk1.symm.trans r2
        obtain ⟨kC, hkC, -⟩ := Vm.findClass_spec hcls.1
        obtain ⟨kE, hkE, -⟩ := Vm.findClass_spec r3
        obtain ⟨kC', hkC', -⟩ := hal.2.2 _ _ hkC
        obtain ⟨kE', hkE', -⟩ := hal.2.2 _ _ hkE
        refine ⟨rfl, cellV, (show T.heap[y]? = some cellV by rw [hT]; exact g1), (fun q h => by rw [g3] at h; cases h), ⟨kC', by rw [g2]; exact hkC'⟩, ?_, ?_⟩
        · exact ⟨kE', hkE'⟩
        · show vm₁.assignable _ _ = true
          rw [hal.assignable, g2]
          exact r_asg hC0 hm cy1 hC _ _ r3 hcls.1)
    (g := F0 m pc ls (.int n :: .int dp :: .ref b1 :: .int sp :: .ref b0 :: st)) rfl (hv.1.1.trans hm.2.2.1.symm) (rest := st) rfl (by rw [hm.2.1]; exact hd) (by rw [hr1]; exact hf) (by rw [hr2]; show 2 * 0 + _ + 18 ≤ _; omega)
  have e1 : copied (arrV (g.2.2.2.1 4) n0 (fun j => va_rf (f j))) (arrV (g.2.2.2.1 4) n1 (fun j => va_rf (f2 j))) sp dp n = arrV (g.2.2.2.1 4) n1 (fun j => va_rf (va_cpy f f2 sp.toNatClampNeg dp.toNatClampNeg n.toNatClampNeg j)) := va_copied (fun z => va_rf z) _ _ f f2 h4
  rw [e1] at X' step
  have hl2 : b1 < H.size := (Array.getElem?_eq_some_iff.mp hc1).1
  have hheap : ((T.setVm vm').setCell b1 (arrV (g.2.2.2.1 4) n1 (fun j => va_rf (va_cpy f f2 sp.toNatClampNeg dp.toNatClampNeg n.toNatClampNeg j)))).heap = H.setIfInBounds b1 (arrV (g.2.2.2.1 4) n1 (fun j => va_rf (va_cpy f f2 sp.toNatClampNeg dp.toNatClampNeg n.toNatClampNeg j))) := by rw [← hT]; rfl
  have oq : ∀ q : Nat, q ≠ b1 → (H.setIfInBounds b1 (arrV (g.2.2.2.1 4) n1 (fun j => va_rf (va_cpy f f2 sp.toNatClampNeg dp.toNatClampNeg n.toNatClampNeg j))))[q]? = H[q]? := fun q hq => by simp [Array.getElem?_setIfInBounds, Ne.symm hq]
  obtain ⟨t, a1, b1'⟩ := kk _ _ ls (fun q hq => by
      rcases List.mem_append.mp hq with h | h
      · exact hl q h
      · obtain ⟨z, -, hz⟩ := List.mem_map.mp h
        rw [← hz]
        exact hBa) (e_below hb hBa oq) (hr.wr ha1 (fun x hx => by cases hx) (by simp) oq (fun ar => (show (H.setIfInBounds b1 _)[b1]? = some _ by simp [Array.getElem?_setIfInBounds, hl2]))) hv _ hheap X'
  exact ⟨t, step t a1, b1'⟩
theorem r_getC {own : String} {x b n mi : Nat} {f : Nat → Option Nat} (hg : e_GK g) (hmi : va_Mi "[Ljava/lang/Object;" mi g.2.1) (ho : M.1.1.cls = own) (hw : Cond.methodLink own x ⟨"java/lang/Object", "getClass", "()Ljava/lang/Class;"⟩ ∈ e_tb)
    (hsel : Cond.selects "[Ljava/lang/Object;" ⟨"java/lang/Object", "getClass", "()Ljava/lang/Class;"⟩ ⟨"java/lang/Object", "getClass", "()Ljava/lang/Class;"⟩ ∈ e_tb) (hinst : Cond.instanceMethod ⟨"java/lang/Object", "getClass", "()Ljava/lang/Class;"⟩ ∈ e_tb) (hnat : Cond.native ⟨"java/lang/Object", "getClass", "()Ljava/lang/Class;"⟩ ∈ e_tb)
    (hd : decode M.1.2.1 pc = .ok (.invokevirtual x, 3)) (hf : 1 ≤ M.2.1) (hlo : 22 ≤ M.2.2) (hl4 : e_l4 st) (hb4 : h.1 b = some (e_R 4 n f)) (q : j_Wm g M Ψ (pc + 3) lv (.ref mi :: st) h) : j_Wm g M Ψ pc lv (.ref b :: st) h := by
  have hl4' : (st.map fun v => v.category).sum ≤ 8 := hl4
  refine j_hstep (Nat.le_refl _) (Nat.le_refl _) (fun {u0 p e s m args below meth c H locs ls R Q} hr1 hr2 hu0 hm hs hl hb hr hv _ _ kk => ?_) q
  have hal := hm.2.2.2.2.2.2.2.2.1
  obtain ⟨z1, t1, z2, t2, z3, t3, -, hdc⟩ := hg.2.2.2.2.2.2
  obtain ⟨_, _, -, -, -, k4⟩ := (e_arT (hm.K hg) 4 (by decide)).2
  exact va_getC hm.1 hm.2.1 (hm.2.2.1.trans hv.1.1.symm) (hm.own ho) (hm.w hw) (va_Dc.use (hdc.moved hal)) (hm.w hsel) (hm.w hinst) (hm.w hnat) (hmi.moved hal) ⟨_, (e_arR hr hb4).2, rfl, k4⟩ (by rw [hr1]; exact hf) (by rw [hr2]; omega) hd (kk H locs ls hl hb hr hv)
theorem r_ldcM {own : String} {x mi : Nat} (hmi : va_Mi "[Ljava/lang/Object;" mi g.2.1) (ho : M.1.1.cls = own) (hw : Cond.classLink own x "[Ljava/lang/Object;" ∈ e_tb) (hd : decode M.1.2.1 pc = .ok (.ldc x, 2)) (q : j_Wm g M Ψ (pc + 2) lv (.ref mi :: st) h) : j_Wm g M Ψ pc lv st h :=
  j_pure (fun hm hv kk => va_ldcM hm.1 hm.2.1 (hm.own ho) (hm.w hw) (hmi.moved hm.2.2.2.2.2.2.2.2.1) hd (kk _ hv)) q
theorem r_max {own : String} {x : Nat} {y z : Int32} (ho : M.1.1.cls = own) (hw : Cond.methodLink own x Lib.Math.max.name ∈ e_tb) (hd : decode M.1.2.1 pc = .ok (.invokestatic x, 3)) (hf : 1 ≤ M.2.1) (hlo : 21 ≤ M.2.2) (hl4 : e_l4 st) (q : j_Wm g M Ψ (pc + 3) lv (.int (if z < y then y else z) :: st) h) : j_Wm g M Ψ pc lv (.int y :: .int z :: st) h := by
  have hl4' : (st.map fun v => v.category).sum ≤ 8 := hl4
  obtain ⟨r2, h', k1, k2, k3, k4⟩ := q
  refine ⟨r2, h', k1, k2, k3, ?_⟩
  intro u0 hu0 p e s m args below meth c H locs ls hm hs hl hb hr hv
  exact va_mmax hm.1 hm.2.1 (hm.2.2.1.trans hv.1.1.symm) (hm.own ho) (hm.w hw) (hm.w e_wMaxs) (hm.w e_wMi) (hm.w e_wMaxc) hf (by show _ ≤ M.2.2; omega) (by show _ ≤ h'.2.1 - s.heap.size; omega) (by show _ ≤ h'.2.2 - u0; omega) hd (k4 u0 hu0 p e s m args below meth c H locs ls hm hs hl hb hr hv)
theorem r_min {own : String} {x : Nat} {y z : Int32} (ho : M.1.1.cls = own) (hw : Cond.methodLink own x Lib.Math.min.name ∈ e_tb) (hd : decode M.1.2.1 pc = .ok (.invokestatic x, 3)) (hf : 1 ≤ M.2.1) (hlo : 21 ≤ M.2.2) (hl4 : e_l4 st) (q : j_Wm g M Ψ (pc + 3) lv (.int (if y < z then y else z) :: st) h) : j_Wm g M Ψ pc lv (.int y :: .int z :: st) h := by
  have hl4' : (st.map fun v => v.category).sum ≤ 8 := hl4
  obtain ⟨r2, h', k1, k2, k3, k4⟩ := q
  refine ⟨r2, h', k1, k2, k3, ?_⟩
  intro u0 hu0 p e s m args below meth c H locs ls hm hs hl hb hr hv
  exact va_mmin hm.1 hm.2.1 (hm.2.2.1.trans hv.1.1.symm) (hm.own ho) (hm.w hw) (hm.w e_wMins) (hm.w e_wMi) (hm.w e_wMinc) hf (by show _ ≤ M.2.2; omega) (by show _ ≤ h'.2.1 - s.heap.size; omega) (by show _ ≤ h'.2.2 - u0; omega) hd (k4 u0 hu0 p e s m args below meth c H locs ls hm hs hl hb hr hv)
theorem r_obj {own : String} {x a : Nat} (ho : M.1.1.cls = own) (hw : Cond.methodLink own x objectInit ∈ e_tb) (hd : decode M.1.2.1 pc = .ok (.invokespecial x, 3)) (hf : 1 ≤ M.2.1) (hlo : 20 ≤ M.2.2) (hl4 : e_l4 st) (q : j_Wm g M Ψ (pc + 3) lv st h) : j_Wm g M Ψ pc lv (.ref a :: st) h := by
  have hl4' : (st.map fun v => v.category).sum ≤ 8 := hl4
  obtain ⟨r2, h', k1, k2, k3, k4⟩ := q
  refine ⟨r2, h', k1, k2, k3, ?_⟩
  intro u0 hu0 p e s m args below meth c H locs ls hm hs hl hb hr hv
  exact W.objInit hm.1 hm.2.1 (hm.own ho) (hm.w hw) (hm.w e_wOi) (hm.w e_wOc) rfl (hv.1.1.trans hm.2.2.1.symm) rfl hd hf (by show 2 * 0 + _ + 12 ≤ M.2.2; omega) (k4 u0 hu0 p e s m args below meth c H locs ls hm hs hl hb hr hv)
theorem j_good {w : Cond} (hw : w ∈ e_tb) : w ∈ j_ws M ∧ ((w.onTables && w.keeps) = true ∨ ∃ ty, w = .arrayClass ty) := ⟨List.mem_cons_of_mem _ hw, good_of_word (List.mem_filter.mp hw).2⟩
/-- a method of the library: its code stands in the tables -/
def j_ok (M : j_M) : Prop := Cond.code M.1.1 M.1.2.1 M.1.2.2.1 M.1.2.2.2 ∈ e_tb ∧ plainName M.1.1.cls = true ∧ M.1.1.cls ≠ "java/lang/invoke/MethodHandle" ∧ M.1.1.cls ≠ "java/lang/invoke/VarHandle" ∧ Cond.initialized M.1.1.cls ∈ e_tb
theorem j_goodIn {M' : j_M} (hk : j_ok M') : GoodIn (j_ws M) (j_ws M') := by
  intro w hw
  rcases List.mem_cons.mp hw with rfl | hw
  · exact j_good hk.1
  · exact j_good hw
theorem j_pre {p : Program} {s : State} {m : MethodId} {args : Array Value} {meth : Method} {c : Code} {H : Heap} {av : List Value} (hm : j_mc g M p s m args meth c) (hb : ∀ q : Nat, q < e_B g → H[q]? = g.2.1.heap[q]?) (hr : e_rep g h H) :
    ∀ U : State, U.heap = H → s.WarmedH U.vm → va_Pc av (e_Pm g h) av.toArray U := by
  intro U hU hW
  refine ⟨rfl, ⟨hm.2.2.2.2.2.2.2.2.1.trans hW.alike, by rw [hU]; exact hb, by rw [hU]; exact hr⟩, fun w hw => ?_⟩
  have h0 := hm.2.2.2.2.2.2.2.2.2.1 w hw
  obtain ⟨a, i, x, b, rfl⟩ := e_nest_is hw
  exact va_Nw.warmM hW h0
theorem j_cal {M' : j_M} {av : List Value} {r : List Value}
    (hgo : ∀ {mc ms : Nat} {rv : Option Value} {h1 : e_Hp} {p : Program} {e : Env} {s : State} {m : MethodId} {args : Array Value} {below : List Frame} {meth : Method} {c : Code} {H : Heap} {locs : List Loc} {ls : Array Slot} {R : Room} {cells slots : Nat}, Met g.1 M'.1.1 (j_ws M') (j_rm M' mc ms) (va_Pc av (e_Pm g h)) (e_Qm g rv h1) mc ms (fun q => e_B g ≤ q) → j_mc g M p s m args meth c → (∀ q : Nat, q < e_B g → H[q]? = g.2.1.heap[q]?) → e_rep g h H → e_lv ls M.1.2.2.1 lv → R.frames = M.2.1 → R.locals = M.2.2 → cells + mc ≤ R.cells → slots + ms ≤ R.slots →
      va_Run p g.1 e R s m args below meth c H locs cells slots mc ms (F0 m pc ls st) r (e_Qm g rv h1 av.toArray) (fun q => e_B g ≤ q))
    (q : j_Sc g M' av h (fun rv h' => j_Wm g M Ψ (pc + 3) lv (e_ps rv r) h')) : j_Wm g M Ψ pc lv st h := by
  obtain ⟨rv, h1, q, hn, hu, hM⟩ := q
  obtain ⟨r2, h', k1, k2, k3, k4⟩ := q
  refine ⟨r2, h', k1, Nat.le_trans hn k2, Nat.le_trans hu k3, ?_⟩
  intro u0 hu0 p e s m args below meth c H locs ls hm hs hl hb hr hv
  have a1 : h.2.1 - s.heap.size + (h1.2.1 - h.2.1) = h1.2.1 - s.heap.size := by omega
  have a2 : h.2.2 - u0 + (h1.2.2 - h.2.2) = h1.2.2 - u0 := by omega
  refine e_call_W (hgo hM hm hb hr hv rfl rfl (by rw [a1]; show _ ≤ h'.2.1 - s.heap.size; omega) (by rw [a2]; show _ ≤ h'.2.2 - u0; omega)) (fun t L hok hL => ?_)
  rw [a1, a2]
  exact k4 u0 (Nat.le_trans hu0 hu) p e s m args below meth c t.heap (locs ++ L) ls hm (Nat.le_trans hs hn) (fun q hq => (List.mem_append.mp hq).elim (hl q) (hL q)) hok.2.1 hok.2.2 hv
def j_rmk (M M' : j_M) : Prop := M'.2.1 + 1 ≤ M.2.1 ∧ 8 + (M'.1.2.2.1 + 11) + M'.2.2 ≤ M.2.2
theorem r_virt {own : String} {x a : Nat} {As st : List Value} {V : Nat → Value} (M' : j_M) (hg : e_GK g) (hk : j_ok M') (ho : M.1.1.cls = own) (hC : M'.1.1.cls = RJx4a65c) (hw : Cond.methodLink own x M'.1.1 ∈ e_tb) (hi : Cond.instanceMethod M'.1.1 ∈ e_tb) (hs : Cond.selects M'.1.1.cls M'.1.1 M'.1.1 ∈ e_tb) (hn : (parseMethodDescriptor M'.1.1.desc).map (fun d => d.parameters.length) = some As.length)
    (hrm : j_rmk M M') (hd : decode M.1.2.1 pc = .ok (.invokevirtual x, 3)) (hl4 : e_l4 st) (ha : h.1 a = some (e_O 0 V)) (q : j_Sc g M' (.ref a :: As) h (fun rv h' => j_Wm g M Ψ (pc + 3) lv (e_ps rv st) h')) : j_Wm g M Ψ pc lv (As.reverse ++ .ref a :: st) h := by
  refine j_cal (fun {mc ms rv h1 p e s m args below meth c H locs ls R cells slots} hM hm hb hr hv hf1 hf2 hc1 hc2 => ?_) q
  have hG : GoodIn (j_ws M) (wsV own x M'.1.1.cls M'.1.1 (j_ws M')) := by
    intro w hw'
    unfold wsV at hw'
    rcases List.mem_append.mp hw' with hw' | hw'
    · simp only [List.mem_cons, List.not_mem_nil, or_false] at hw'
      rcases hw' with rfl | rfl | rfl | rfl
      · exact j_good hw
      · exact j_good hi
      · exact j_good hs
      · exact j_good hk.2.2.2.2
    · exact j_goodIn hk w hw'
  refine va_runV (As := As) (rest := st) ⟨hm.1, hm.2.1, hm.2.2.1, hm.own ho, hm.2.2.2.2.2.1⟩ hM (cwV As.length hm.2.2.2.2.2.1 hG rfl rfl rfl ⟨rfl, hk.2.2.1, hk.2.2.2.1, hn⟩ ⟨by rw [hf1]; exact hrm.1, by rw [hf2]; exact hrm.2⟩) ⟨e_blind, ?_, j_pre hm hb hr⟩ rfl rfl hv.1.1 rfl (lv_room hl4) hd ⟨hc1, hc2⟩
  obtain ⟨-, C', hC', cell, q1, q2, q3, q4⟩ := e_obj hr ha
  cases hC'
  have hcl := ((hm.K hg).1 0 (RJx4a65c, TJx4a65c, 3) rfl).2
  exact ⟨cell, q1, by rw [q3]; rfl, by rw [q2, hC]; exact hcl.1⟩
theorem r_stat {own : String} {x : Nat} {As st : List Value} (M' : j_M) (hk : j_ok M') (ho : M.1.1.cls = own) (hw : Cond.methodLink own x M'.1.1 ∈ e_tb) (hs : Cond.static M'.1.1 ∈ e_tb) (hn : (parseMethodDescriptor M'.1.1.desc).map (fun d => d.parameters.length) = some As.length)
    (hrm : j_rmk M M') (hd : decode M.1.2.1 pc = .ok (.invokestatic x, 3)) (hl4 : e_l4 st) (q : j_Sc g M' As h (fun rv h' => j_Wm g M Ψ (pc + 3) lv (e_ps rv st) h')) : j_Wm g M Ψ pc lv (As.reverse ++ st) h := by
  refine j_cal (fun {mc ms rv h1 p e s m args below meth c H locs ls R cells slots} hM hm hb hr hv hf1 hf2 hc1 hc2 => ?_) q
  have hG : GoodIn (j_ws M) (va_wsS own x M'.1.1 (j_ws M')) := by
    intro w hw'
    unfold va_wsS at hw'
    rcases List.mem_append.mp hw' with hw' | hw'
    · simp only [List.mem_cons, List.not_mem_nil, or_false] at hw'
      rcases hw' with rfl | rfl | rfl
      · exact j_good hw
      · exact j_good hs
      · exact j_good hk.2.2.2.2
    · exact j_goodIn hk w hw'
  exact va_runS (As := As) (rest := st) ⟨hm.1, hm.2.1, hm.2.2.1, hm.own ho, hm.2.2.2.2.2.1⟩ hM (va_cwS As.length hm.2.2.2.2.2.1 hG rfl rfl rfl ⟨hk.2.2.1, hk.2.2.2.1, hn⟩ ⟨by rw [hf1]; exact hrm.1, by rw [hf2]; exact hrm.2⟩) ⟨e_blind, j_pre hm hb hr⟩ rfl rfl hv.1.1 rfl (lv_room hl4) hd ⟨hc1, hc2⟩
theorem r_init {own : String} {x a : Nat} {As st : List Value} (M' : j_M) (hk : j_ok M') (ho : M.1.1.cls = own) (hw : Cond.methodLink own x M'.1.1 ∈ e_tb) (hi : Cond.instanceMethod M'.1.1 ∈ e_tb) (hi2 : M'.1.1.name = "<init>") (hrt : M'.1.2.2.2 = none) (hn : (parseMethodDescriptor M'.1.1.desc).map (fun d => d.parameters.length) = some As.length)
    (hrm : j_rmk M M') (hd : decode M.1.2.1 pc = .ok (.invokespecial x, 3)) (hl4 : e_l4 st) (q : j_Sc g M' (.ref a :: As) h (fun rv h' => j_Wm g M Ψ (pc + 3) lv (e_ps rv st) h')) : j_Wm g M Ψ pc lv (As.reverse ++ .ref a :: st) h := by
  refine j_cal (fun {mc ms rv h1 p e s m args below meth c H locs ls R cells slots} hM hm hb hr hv hf1 hf2 hc1 hc2 => ?_) q
  exact va_runI (As := As) (rest := st) ⟨hm.1, hm.2.1, hm.2.2.1, hm.own ho, hm.2.2.2.2.2.1⟩ hM (cwI As.length hm.2.2.2.2.2.1 (j_goodIn hk) (by unfold j_ws; rw [hrt]) rfl rfl (hm.w hk.2.2.2.2) (hm.w hw) (hm.w hi) hi2 ⟨hk.2.2.1, hk.2.2.2.1, hn⟩ ⟨by rw [hf1]; exact hrm.1, by rw [hf2]; exact hrm.2⟩) ⟨e_blind, j_pre hm hb hr⟩ rfl rfl hv.1.1 rfl (lv_room hl4) hd ⟨hc1, hc2⟩
theorem r_ret {v : Option Value} (hΨ : Ψ v h) (hstep : ∀ {u0 : Nat} {p : Program} {e : Env} {s : State} {m : MethodId} {args : Array Value} {below : List Frame} {meth : Method} {c : Code} {H : Heap} {locs : List Loc} {ls : Array Slot} {R : Room}, j_mc g M p s m args meth c → (∀ q ∈ locs, e_B g ≤ q.base) → (∀ t : State, t.heap = H → s.WarmedH t.vm → e_Qm g v h args s (.returned v) t) → W p g.1 e R s m args below meth c H locs (h.2.1 - s.heap.size) (h.2.2 - u0) (MQ below (e_Qm g v h) args s (h.2.1 - s.heap.size) (h.2.2 - u0) (fun q => e_B g ≤ q)) (F0 m pc ls st)) : j_Wm g M Ψ pc lv st h := by
  refine ⟨v, h, hΨ, Nat.le_refl _, Nat.le_refl _, ?_⟩
  intro u0 hu p e s m args below meth c H locs ls hm hs hl hb hr hv
  refine hstep hm hl (fun t ht hw => ⟨rfl, ?_, fun q hq => by rw [ht]; exact hb q hq, by rw [ht]; exact hr⟩)
  exact hm.2.2.2.2.2.2.2.2.1.trans hw.alike
theorem r_ireturn {x : Int32} (hd : decode M.1.2.1 pc = .ok (.ireturn, 1)) (hr : M.1.2.2.2 = some .int ∨ (M.1.2.2.2 = some .boolean ∧ (x = 0 ∨ x = 1))) (q : Ψ (some (.int x)) h) : j_Wm g M Ψ pc lv [.int x] h := by
  refine r_ret q (fun {u0 p e s m args below meth c H locs ls R} hm hl hq => ?_)
  have hlk := hm.2.2.2.2.2.2.1
  rcases hr with hr | ⟨hr, hx⟩
  · exact W.iret hm.1 hm.2.1 (hm.2.2.2.1.trans hr) hq hl hd hlk
  · exact W.zret hm.1 hm.2.1 (hm.2.2.2.1.trans hr) (by rcases hx with rfl | rfl <;> decide) hq hl hd hlk
theorem r_areturn {a : Nat} {rt : FieldType} (hd : decode M.1.2.1 pc = .ok (.areturn, 1)) (hr : M.1.2.2.2 = some rt) (hrt : (∃ n, rt = .object n) ∨ ∃ t, rt = .array t) (q : Ψ (some (.ref a)) h) : j_Wm g M Ψ pc lv [.ref a] h :=
  r_ret q (fun {u0 p e s m args below meth c H locs ls R} hm hl hq => W.aret hm.1 hm.2.1 (hm.2.2.2.1.trans hr) hrt (Or.inr ⟨_, rfl⟩) hq hl hd hm.2.2.2.2.2.2.1)
theorem r_return (hd : decode M.1.2.1 pc = .ok (.return_, 1)) (hr : M.1.2.2.2 = none) (q : Ψ none h) : j_Wm g M Ψ pc lv [] h :=
  r_ret q (fun {u0 p e s m args below meth c H locs ls R} hm hl hq => W.vret hm.1 hm.2.1 (hm.2.2.2.1.trans hr) hq hl hd hm.2.2.2.2.2.2.1)
theorem j_run {av : List Value} (hk : j_ok M) (hw : e_ww av ≤ M.1.2.2.1) (q : j_Wm g M Ψ 0 (e_in av M.1.2.2.1) [] h) : j_Sc g M av h Ψ := by
  obtain ⟨r, h', k1, k2, k3, k4⟩ := q
  refine ⟨r, h', k1, k2, k3, ?_⟩
  refine Met.ofW (cc := M.1.2.1) (maxL := M.1.2.2.1) (ret := M.1.2.2.2) hk.2.1 rfl ?_
  intro p e s m args below meth c s₁ B hml hv
  obtain ⟨rfl, ⟨hal, hb, hr⟩, hnw⟩ := hv
  have hts := atoms_spec (ws := j_ws M) B.pre
  have hsz := hr.1
  have hB : e_B g ≤ s.heap.size := by
    rcases Nat.lt_or_ge s.heap.size (e_B g) with z | z
    · have e1 := hb s.heap.size z
      have e2 : g.2.1.heap[s.heap.size]? = some g.2.1.heap[s.heap.size] := Array.getElem?_eq_getElem z
      rw [e2] at e1
      simp at e1
    · exact z
  have hm : j_mc g M p s m av.toArray meth c := ⟨B.exec, B.bytes, hml, B.returns, findClass_of_methodNamed B.named, hts, B.notSynchronized, (name_of_methodNamed B.named B.method).1, hal, hnw, hb, hB⟩
  have hl := lv_entry av (n := M.1.2.2.1) (by rw [e_sl_len]; exact hw)
  rw [lg_entry_eq]
  generalize hls : (lg_sl av ++ List.replicate (M.1.2.2.1 - (lg_sl av).length) Slot.unset).toArray = ls at hl ⊢
  have hlv : e_lv ls M.1.2.2.1 (e_in av M.1.2.2.1) := by
    refine ⟨⟨hl.1, hl.2.1, fun q hq => ?_⟩, e_in_len av _ hw⟩
    obtain ⟨i, v⟩ := q
    have hx := e_in_get av _ i v (e_as_mem.mp hq)
    show ls[i]? = some (.val v)
    rw [← hls, List.getElem?_toArray, List.getElem?_append_left (List.getElem?_eq_some_iff.mp hx).1]
    exact hx
  have key := k4 h.2.2 (Nat.le_refl _) p e s m av.toArray below meth c s.heap [] ls hm (by rw [hsz]; exact Nat.le_refl _) (fun q hq => by cases hq) hb hr hlv
  rw [hsz, Nat.sub_self, Nat.sub_self] at key
  exact key
theorem j_Sc.mono {av : List Value} {Φ : e_Q} (hs : j_Sc g M av h Ψ) (hi : ∀ r h', Ψ r h' → Φ r h') : j_Sc g M av h Φ := by
  obtain ⟨r, h', a, b⟩ := hs
  exact ⟨r, h', hi r h' a, b⟩
end JB
