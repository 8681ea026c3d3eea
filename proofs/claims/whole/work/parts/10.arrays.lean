/-! arrays, new cells, casts, constants, answers -/
section AR
variable {g : e_G} {k o : Nat} {Ψ : e_Q} {pc : Nat} {lv : e_Lv} {st : List Value} {h : e_Hp}
theorem e_arT {s : State} (hK : va_K g.2.2.1 vwCl (e_tys g) s) (t : Nat) (ht : t < 5) : ArrOfT s (g.2.2.2.1 t) (e_ty t) ∧ va_RA s (g.2.2.2.1 t) (e_ty t) := by
  match t, ht with
  | 0, _ => exact hK.2 0 _ rfl
  | 1, _ => exact hK.2 1 _ rfl
  | 2, _ => exact hK.2 2 _ rfl
  | 3, _ => exact hK.2 3 _ rfl
  | 4, _ => exact hK.2 4 _ rfl
theorem e_vin {i : Int32} {cI : ClassId} {n : Nat} {f : Nat → Value} (h : vp_in i n) : ¬ (i < 0 ∨ (arrV cI n f).slots.size ≤ i.toNatClampNeg) := by rw [arrV_size]; exact h
theorem e_vlt {i : Int32} {n : Nat} (h : vp_in i n) : i.toNatClampNeg < n := Nat.not_le.mp fun q => h (Or.inr q)
theorem e_w_iaload {K : e_K} (hg : e_GK g) (hd : decode (e_c k) pc = .ok (.iaload, 1)) (hK : ∀ lv st h, K lv st h → e_Wm g k Ψ (pc + 1) lv st h)
    (q : e_p1i st (fun i r => e_p1r r (fun a r => e_gI h a 0 (fun n f => vp_in i n ∧ K lv (.int (f i.toNatClampNeg) :: r) h)))) : e_Wm g k Ψ pc lv st h := by
  replace q := e_p1i_spec q
  obtain ⟨i, r, rfl, q⟩ := q
  replace q := e_p1r_spec q
  obtain ⟨a, r, rfl, q⟩ := q
  obtain ⟨n, f, ha, hin, q⟩ := e_gI_spec q
  refine e_hstep (Nat.le_refl _) (Nat.le_refl _) (fun {u0 p e s m args below meth c H locs ls R Q} hu0 hm hs hl hb hr hv _ _ kk => ?_) (hK _ _ _ q)
  exact W.iald (v := .int (f i.toNatClampNeg)) hm.1 hm.2.1 (e_arI hr ha).2 ((e_arT (hm.K hg) 0 (by decide)).1 n (fun j => .int (f j))) (fun q => by cases q) (e_vin hin) (arrV_read _ _ (e_vlt hin)) rfl rfl hd (kk H locs ls hl hb hr hv)
theorem e_w_baload {K : e_K} (hg : e_GK g) (hd : decode (e_c k) pc = .ok (.baload, 1)) (hK : ∀ lv st h, K lv st h → e_Wm g k Ψ (pc + 1) lv st h)
    (q : e_p1i st (fun i r => e_p1r r (fun a r => e_gI h a 1 (fun n f => vp_in i n ∧ K lv (.int (f i.toNatClampNeg) :: r) h)))) : e_Wm g k Ψ pc lv st h := by
  replace q := e_p1i_spec q
  obtain ⟨i, r, rfl, q⟩ := q
  replace q := e_p1r_spec q
  obtain ⟨a, r, rfl, q⟩ := q
  obtain ⟨n, f, ha, hin, q⟩ := e_gI_spec q
  refine e_hstep (Nat.le_refl _) (Nat.le_refl _) (fun {u0 p e s m args below meth c H locs ls R Q} hu0 hm hs hl hb hr hv _ _ kk => ?_) (hK _ _ _ q)
  exact W.zald (v := .int (f i.toNatClampNeg)) hm.1 hm.2.1 (e_arI hr ha).2 ((e_arT (hm.K hg) 1 (by decide)).1 n (fun j => .int (f j))) (fun q => by cases q) (e_vin hin) (arrV_read _ _ (e_vlt hin)) rfl rfl hd (kk H locs ls hl hb hr hv)
theorem e_locs {locs : List Loc} {a i : Nat} (hl : ∀ q ∈ locs, e_B g ≤ q.base) (ha : e_B g ≤ a) : ∀ q ∈ locs ++ [(⟨a, i⟩ : Loc)], e_B g ≤ q.base := by
  intro q hq
  rcases List.mem_append.mp hq with h1 | h1
  · exact hl q h1
  · rw [List.mem_singleton.mp h1]; exact ha
theorem e_below {H H' : Heap} {a : Nat} (hb : ∀ q : Nat, q < e_B g → H[q]? = g.2.1.heap[q]?) (ha : e_B g ≤ a) (e3 : ∀ q, q ≠ a → H'[q]? = H[q]?) : ∀ q : Nat, q < e_B g → H'[q]? = g.2.1.heap[q]? :=
  fun q hq => (e3 q (Nat.ne_of_lt (Nat.lt_of_lt_of_le hq ha))).trans (hb q hq)
theorem e_upI (cI : ClassId) (n : Nat) (f : Nat → Int32) (j : Nat) (x : Int32) : (arrV cI n (fun j => .int (f j))).setSlot j (.int x) = arrV cI n (fun i => .int (va_up f j x i)) := by
  rw [arrV_store]
  congr 1
  funext q
  by_cases hq : q = j
  · subst hq; simp [updV, va_up]
  · simp [updV, va_up, hq]
theorem e_upR (cI : ClassId) (n : Nat) (f : Nat → Option Nat) (j : Nat) (x : Option Nat) : (arrV cI n (fun j => va_rf (f j))).setSlot j (va_rf x) = arrV cI n (fun i => va_rf (va_up f j x i)) := by
  rw [arrV_store]
  congr 1
  funext q
  by_cases hq : q = j
  · subst hq; simp [updV, va_up]
  · simp [updV, va_up, hq]
theorem e_w_iastore {K : e_K} (hg : e_GK g) (hd : decode (e_c k) pc = .ok (.iastore, 1)) (hK : ∀ lv st h, K lv st h → e_Wm g k Ψ (pc + 1) lv st h)
    (q : e_p1i st (fun x r => e_p1i r (fun i r => e_p1r r (fun a r => e_gI h a 0 (fun n f => vp_in i n ∧ K lv r (e_wr h a (e_I 0 n (va_up f i.toNatClampNeg x)))))))) : e_Wm g k Ψ pc lv st h := by
  replace q := e_p1i_spec q
  obtain ⟨x, r, rfl, q⟩ := q
  replace q := e_p1i_spec q
  obtain ⟨i, r, rfl, q⟩ := q
  replace q := e_p1r_spec q
  obtain ⟨a, r, rfl, q⟩ := q
  obtain ⟨n, f, ha, hin, q⟩ := e_gI_spec q
  refine e_hstep (h2 := e_wr h a (e_I 0 n (va_up f i.toNatClampNeg x))) (Nat.le_refl _) (Nat.le_refl _) (fun {u0 p e s m args below meth c H locs ls R Q} hu0 hm hs hl hb hr hv _ _ kk => ?_) (hK _ _ _ q)
  obtain ⟨hBa, hc⟩ := e_arI hr ha
  refine W.iast hm.1 hm.2.1 hc ((e_arT (hm.K hg) 0 (by decide)).1 n (fun j => .int (f j))) (fun q => by cases q) (e_vin hin) rfl rfl hd fun H1 e z oq => ?_
  exact kk H1 _ ls (e_locs hl hBa) (e_below hb hBa oq) (hr.wr ha (fun x hx => by cases hx) z oq (fun ar => by rw [e_upI] at e; exact e)) hv
theorem e_w_bastore {K : e_K} (hg : e_GK g) (hd : decode (e_c k) pc = .ok (.bastore, 1)) (hK : ∀ lv st h, K lv st h → e_Wm g k Ψ (pc + 1) lv st h)
    (q : e_p1i st (fun x r => e_p1i r (fun i r => e_p1r r (fun a r => (x = 0 ∨ x = 1) ∧ e_gI h a 1 (fun n f => vp_in i n ∧ K lv r (e_wr h a (e_I 1 n (va_up f i.toNatClampNeg x)))))))) : e_Wm g k Ψ pc lv st h := by
  replace q := e_p1i_spec q
  obtain ⟨x, r, rfl, q⟩ := q
  replace q := e_p1i_spec q
  obtain ⟨i, r, rfl, q⟩ := q
  replace q := e_p1r_spec q
  obtain ⟨a, r, rfl, hx, q⟩ := q
  obtain ⟨n, f, ha, hin, q⟩ := e_gI_spec q
  have hnx : narrow .boolean (.int x) = .int x := by rcases hx with rfl | rfl <;> decide
  refine e_hstep (h2 := e_wr h a (e_I 1 n (va_up f i.toNatClampNeg x))) (Nat.le_refl _) (Nat.le_refl _) (fun {u0 p e s m args below meth c H locs ls R Q} hu0 hm hs hl hb hr hv _ _ kk => ?_) (hK _ _ _ q)
  obtain ⟨hBa, hc⟩ := e_arI hr ha
  refine W.zast hm.1 hm.2.1 hc ((e_arT (hm.K hg) 1 (by decide)).1 n (fun j => .int (f j))) (fun q => by cases q) (e_vin hin) rfl rfl hd fun H1 e z oq => ?_
  exact kk H1 _ ls (e_locs hl hBa) (e_below hb hBa oq) (hr.wr ha (fun x hx => by cases hx) z oq (fun ar => by rw [hnx, e_upI] at e; exact e)) hv
theorem e_w_aaload {K : e_K} (hg : e_GK g) (hd : decode (e_c k) pc = .ok (.aaload, 1)) (hK : ∀ lv st h, K lv st h → e_Wm g k Ψ (pc + 1) lv st h)
    (q : e_p1i st (fun i r => e_p1r r (fun a r => e_gR h a (fun t n f => (t = 2 ∨ t = 3) ∧ vp_in i n ∧ K lv (va_rf (f i.toNatClampNeg) :: r) h)))) : e_Wm g k Ψ pc lv st h := by
  replace q := e_p1i_spec q
  obtain ⟨i, r, rfl, q⟩ := q
  replace q := e_p1r_spec q
  obtain ⟨a, r, rfl, q⟩ := q
  obtain ⟨t, n, f, ha, ht, hin, q⟩ := e_gR_spec q
  refine e_hstep (Nat.le_refl _) (Nat.le_refl _) (fun {u0 p e s m args below meth c H locs ls R Q} hu0 hm hs hl hb hr hv _ _ kk => ?_) (hK _ _ _ q)
  have hT := (e_arT (hm.K hg) t (by omega)).1 n (fun j => va_rf (f j))
  have hir : (e_ty t).isReference = true := by rcases ht with rfl | rfl <;> rfl
  exact W.aald (v := va_rf (f i.toNatClampNeg)) hm.1 hm.2.1 (e_arR hr ha).2 hT hir (fun q => by cases q) (e_vin hin) (arrV_read _ _ (e_vlt hin)) rfl rfl hd (kk H locs ls hl hb hr hv)
theorem e_w_aastore {K : e_K} (hg : e_GK g) (hd : decode (e_c k) pc = .ok (.aastore, 1)) (hK : ∀ lv st h, K lv st h → e_Wm g k Ψ (pc + 1) lv st h)
    (q : e_p1r st (fun v r => e_p1i r (fun i r => e_p1r r (fun a r => e_gR h a (fun t n f => (t = 2 ∨ t = 3) ∧ e_gO h v (e_ec t) (fun _ => vp_in i n ∧ K lv r (e_wr h a (e_R t n (va_up f i.toNatClampNeg (some v)))))))))) : e_Wm g k Ψ pc lv st h := by
  replace q := e_p1r_spec q
  obtain ⟨v, r, rfl, q⟩ := q
  replace q := e_p1i_spec q
  obtain ⟨i, r, rfl, q⟩ := q
  replace q := e_p1r_spec q
  obtain ⟨a, r, rfl, q⟩ := q
  obtain ⟨t, n, f, ha, ht, q⟩ := e_gR_spec q
  obtain ⟨V, hav, hin, q⟩ := e_gO_spec q
  refine e_hstep (h2 := e_wr h a (e_R t n (va_up f i.toNatClampNeg (some v)))) (Nat.le_refl _) (Nat.le_refl _) (fun {u0 p e s m args below meth c H locs ls R Q} hu0 hm hs hl hb hr hv _ _ kk => ?_) (hK _ _ _ q)
  obtain ⟨hBa, hc⟩ := e_arR hr ha
  obtain ⟨-, C, hC, cellV, g1, g2, g3, -⟩ := e_obj hr hav
  have hcls := ((hm.K hg).1 _ C hC).2
  obtain ⟨kA, comp, k1, k2, k3, -⟩ : ∃ (kA : Class) (comp : ClassId), s.vm.classes[g.2.2.2.1 t]? = some kA ∧ kA.kind = .array comp (.object C.1) ∧ s.vm.findClass C.1 = some comp ∧ True := by
    rcases ht with rfl | rfl
    · cases hC
      obtain ⟨kA, comp, k1, k2, k3, -⟩ := (e_arT (hm.K hg) 2 (by decide)).2
      exact ⟨kA, comp, k1, k2, k3, trivial⟩
    · cases hC
      obtain ⟨kA, comp, k1, k2, k3, -⟩ := (e_arT (hm.K hg) 3 (by decide)).2
      exact ⟨kA, comp, k1, k2, k3, trivial⟩
  have hcomp : comp = g.2.2.1.1 (e_ec t) := Option.some.inj (k3.symm.trans hcls.1)
  subst hcomp
  obtain ⟨kC, hkC, -⟩ := hcls.2
  refine W.aast hm.1 hm.2.1 hc (fun q h => by cases h) (fun h => by cases h) k1 k2 rfl hkC ⟨fun q => hin (Or.inl q), by rw [arrV_size]; exact e_vlt hin⟩ g1 (fun q h => by rw [g3] at h; cases h) (by rw [g2]; exact hkC) (by rw [g2]; exact va_assign hcls) rfl rfl hd fun H1 e z oq => ?_
  exact kk H1 _ ls (e_locs hl hBa) (e_below hb hBa oq) (hr.wr ha (fun x hx => by cases hx) z oq (fun ar => by
    have e2 := e_upR (g.2.2.2.1 t) n f i.toNatClampNeg (some v)
    rw [show (Value.ref v) = va_rf (some v) from rfl, e2] at e
    exact e)) hv
theorem e_w_alen {K : e_K} (hg : e_GK g) (hd : decode (e_c k) pc = .ok (.arraylength, 1)) (hK : ∀ lv st h, K lv st h → e_Wm g k Ψ (pc + 1) lv st h)
    (q : e_p1r st (fun a r => e_gl h a (fun n => K lv (.int (Int32.ofNat n) :: r) h))) : e_Wm g k Ψ pc lv st h := by
  replace q := e_p1r_spec q
  obtain ⟨a, r, rfl, q⟩ := q
  unfold e_gl at q; split at q
  · rename_i x hx
    obtain ⟨t, n, f⟩ := x
    refine e_hstep (Nat.le_refl _) (Nat.le_refl _) (fun {u0 p e s m args below meth c H locs ls R Q} hu0 hm hs hl hb hr hv _ _ kk => ?_) (hK _ _ _ q.2)
    have hT := (e_arT (hm.K hg) t (by have := q.1; simp only at this; omega)).1 n (fun j => .int (f j))
    exact W.alen (n := Int32.ofNat n) hm.1 hm.2.1 (e_arI hr hx).2 hT (by rw [arrV_size] <;> rfl) rfl rfl hd (kk H locs ls hl hb hr hv)
  · rename_i x hx
    obtain ⟨t, n, f⟩ := x
    refine e_hstep (Nat.le_refl _) (Nat.le_refl _) (fun {u0 p e s m args below meth c H locs ls R Q} hu0 hm hs hl hb hr hv _ _ kk => ?_) (hK _ _ _ q.2)
    have hT := (e_arT (hm.K hg) t (by have := q.1; simp only at this; omega)).1 n (fun j => va_rf (f j))
    exact W.alen (n := Int32.ofNat n) hm.1 hm.2.1 (e_arR hr hx).2 hT (by rw [arrV_size] <;> rfl) rfl rfl hd (kk H locs ls hl hb hr hv)
  · exact q.elim
theorem e_w_newI {K : e_K} (hg : e_GK g) (hd : decode (e_c k) pc = .ok (.newarray .int, 2)) (hw : Cond.arrayClass .int ∈ e_tb) (hK : ∀ lv st h, K lv st h → e_Wm g k Ψ (pc + 2) lv st h)
    (q : e_p1i st (fun n r => ¬ n < 0 ∧ n.toNatClampNeg ≤ 65536 ∧ K lv (.ref h.2.1 :: r) (e_al h (e_I 0 n.toNatClampNeg (fun _ => 0)) n.toNatClampNeg))) : e_Wm g k Ψ pc lv st h := by
  replace q := e_p1i_spec q
  obtain ⟨n, r, rfl, hn, hn2, q⟩ := q
  refine e_hstep (h2 := e_al h (e_I 0 n.toNatClampNeg (fun _ => 0)) n.toNatClampNeg) (Nat.le_succ _) (Nat.le_add_right _ _) (fun {u0 p e s m args below meth c H locs ls R Q} hu0 hm hs hl hb hr hv hc1 hc2 kk => ?_) (hK _ _ _ q)
  have hsz := hr.1
  have hc1' : h.2.1 + 1 - s.heap.size ≤ R.cells := hc1
  have hc2' : h.2.2 + n.toNatClampNeg - u0 ≤ R.slots := hc2
  refine va_newaK hm.1 hm.2.1 (atype := .int) (hm.w hw) rfl hd rfl hn rfl (by show _ * 4 ≤ _; omega) (by omega) (by omega) hsz fun H1 cA e1 z1 o1 hAr hNm => ?_
  have hcA : cA = g.2.2.2.1 0 := Option.some.inj (hNm.symm.trans (e_arT (hm.K hg) 0 (by decide)).2)
  subst hcA
  have hB : e_B g ≤ H.size := by rw [hsz]; exact Nat.le_trans hm.2.2.2.2.2.2.2.2.2.2.2 hs
  have key := kk H1 locs ls hl (fun q hq => (o1 q (by omega)).trans (hb q hq)) (hr.al hB (fun x hx => by cases hx) (by rw [z1, hsz]) (fun q hq => o1 q (by omega)) (fun ar => by rw [hsz]; exact e1)) hv
  have a1 : h.2.1 - s.heap.size + 1 = (e_al h (e_I 0 n.toNatClampNeg (fun _ => 0)) n.toNatClampNeg).2.1 - s.heap.size := by show _ = h.2.1 + 1 - s.heap.size; omega
  have a2 : h.2.2 - u0 + n.toNatClampNeg = (e_al h (e_I 0 n.toNatClampNeg (fun _ => 0)) n.toNatClampNeg).2.2 - u0 := by show _ = h.2.2 + n.toNatClampNeg - u0; omega
  rw [a1, a2]
  exact key
theorem e_w_newZ {K : e_K} (hg : e_GK g) (hd : decode (e_c k) pc = .ok (.newarray .boolean, 2)) (hw : Cond.arrayClass .boolean ∈ e_tb) (hK : ∀ lv st h, K lv st h → e_Wm g k Ψ (pc + 2) lv st h)
    (q : e_p1i st (fun n r => ¬ n < 0 ∧ n.toNatClampNeg ≤ 65536 ∧ K lv (.ref h.2.1 :: r) (e_al h (e_I 1 n.toNatClampNeg (fun _ => 0)) n.toNatClampNeg))) : e_Wm g k Ψ pc lv st h := by
  replace q := e_p1i_spec q
  obtain ⟨n, r, rfl, hn, hn2, q⟩ := q
  refine e_hstep (h2 := e_al h (e_I 1 n.toNatClampNeg (fun _ => 0)) n.toNatClampNeg) (Nat.le_succ _) (Nat.le_add_right _ _) (fun {u0 p e s m args below meth c H locs ls R Q} hu0 hm hs hl hb hr hv hc1 hc2 kk => ?_) (hK _ _ _ q)
  have hsz := hr.1
  have hc1' : h.2.1 + 1 - s.heap.size ≤ R.cells := hc1
  have hc2' : h.2.2 + n.toNatClampNeg - u0 ≤ R.slots := hc2
  refine va_newaK hm.1 hm.2.1 (atype := .boolean) (hm.w hw) rfl hd rfl hn rfl (by show _ * 1 ≤ _; omega) (by omega) (by omega) hsz fun H1 cA e1 z1 o1 hAr hNm => ?_
  have hcA : cA = g.2.2.2.1 1 := Option.some.inj (hNm.symm.trans (e_arT (hm.K hg) 1 (by decide)).2)
  subst hcA
  have hB : e_B g ≤ H.size := by rw [hsz]; exact Nat.le_trans hm.2.2.2.2.2.2.2.2.2.2.2 hs
  have key := kk H1 locs ls hl (fun q hq => (o1 q (by omega)).trans (hb q hq)) (hr.al hB (fun x hx => by cases hx) (by rw [z1, hsz]) (fun q hq => o1 q (by omega)) (fun ar => by rw [hsz]; exact e1)) hv
  have a1 : h.2.1 - s.heap.size + 1 = (e_al h (e_I 1 n.toNatClampNeg (fun _ => 0)) n.toNatClampNeg).2.1 - s.heap.size := by show _ = h.2.1 + 1 - s.heap.size; omega
  have a2 : h.2.2 - u0 + n.toNatClampNeg = (e_al h (e_I 1 n.toNatClampNeg (fun _ => 0)) n.toNatClampNeg).2.2 - u0 := by show _ = h.2.2 + n.toNatClampNeg - u0; omega
  rw [a1, a2]
  exact key
theorem e_w_anew {K : e_K} {x : Nat} (hg : e_GK g) (ho : (e_y k).cls = e_cn o) (hd : decode (e_c k) pc = .ok (.anewarray x, 3)) (hK : ∀ lv st h, K lv st h → e_Wm g k Ψ (pc + 3) lv st h)
    (q : e_p1i st (fun n r => e_om (e_CT o x) (fun ci => e_an ci (fun t => ¬ n < 0 ∧ n.toNatClampNeg ≤ 65536 ∧ K lv (.ref h.2.1 :: r) (e_al h (e_R t n.toNatClampNeg (fun _ => none)) n.toNatClampNeg))))) : e_Wm g k Ψ pc lv st h := by
  replace q := e_p1i_spec q
  obtain ⟨n, r, rfl, q⟩ := q
  obtain ⟨ci, hct, q⟩ := e_om_spec q
  obtain ⟨C, hC, hw⟩ := e_CT_ok hct
  obtain ⟨t, htC, hn, hn2, q⟩ : ∃ t, ((t = 2 ∧ C.1 = "HoldHouse$Thing") ∨ (t = 3 ∧ C.1 = "HoldHouse$Spot")) ∧ ¬ n < 0 ∧ n.toNatClampNeg ≤ 65536 ∧ K lv (.ref h.2.1 :: r) (e_al h (e_R t n.toNatClampNeg (fun _ => none)) n.toNatClampNeg) := by
    unfold e_an at q; split at q
    · cases hC; exact ⟨2, Or.inl ⟨rfl, rfl⟩, q⟩
    · cases hC; exact ⟨3, Or.inr ⟨rfl, rfl⟩, q⟩
    · exact q.elim
  refine e_hstep (h2 := e_al h (e_R t n.toNatClampNeg (fun _ => none)) n.toNatClampNeg) (Nat.le_succ _) (Nat.le_add_right _ _) (fun {u0 p e s m args below meth c H locs ls R Q} hu0 hm hs hl hb hr hv hc1 hc2 kk => ?_) (hK _ _ _ q)
  have hsz := hr.1
  have hc1' : h.2.1 + 1 - s.heap.size ≤ R.cells := hc1
  have hc2' : h.2.2 + n.toNatClampNeg - u0 ≤ R.slots := hc2
  have hAO : va_AO C.1 s := by
    rcases htC with ⟨-, hc⟩ | ⟨-, hc⟩
    · rw [hc]; exact hg.2.1.moved hm.2.2.2.2.2.2.2.2.1
    · rw [hc]; exact hg.2.2.1.moved hm.2.2.2.2.2.2.2.2.1
  refine W.anew hm.1 hm.2.1 (hm.own ho) (hm.w hw) (va_AO.use hAO) rfl hd rfl hn (by omega) (by omega) (by omega) fun cA kA comp f1 f2 f3 f4 => ?_
  generalize hH1 : H.push ({ cls := cA, slots := Array.replicate n.toNatClampNeg .null, vm := .none } : Cell) = H1
  have z1 : H1.size = H.size + 1 := by rw [← hH1, Array.size_push]
  have e1 : H1[H.size]? = some (arrV cA n.toNatClampNeg (fun _ => .null)) := by rw [← hH1, Array.getElem?_push_size, ← arrV_new]
  have o1 : ∀ q : Nat, q < H.size → H1[q]? = H[q]? := fun q hq => by rw [← hH1, Array.getElem?_push, if_neg (Nat.ne_of_lt hq)]
  have hcA : cA = g.2.2.2.1 t := by
    rcases htC with ⟨rfl, hc⟩ | ⟨rfl, hc⟩
    · rw [hc] at f1
      obtain ⟨_, _, -, -, -, k4⟩ := (e_arT (hm.K hg) 2 (by decide)).2
      exact Option.some.inj (f1.symm.trans k4)
    · rw [hc] at f1
      obtain ⟨_, _, -, -, -, k4⟩ := (e_arT (hm.K hg) 3 (by decide)).2
      exact Option.some.inj (f1.symm.trans k4)
  subst hcA
  have hB : e_B g ≤ H.size := by rw [hsz]; exact Nat.le_trans hm.2.2.2.2.2.2.2.2.2.2.2 hs
  have key := kk H1 locs ls hl (fun q hq => (o1 q (by omega)).trans (hb q hq)) (hr.al hB (fun x hx => by cases hx) z1 o1 (fun ar => e1)) hv
  have a1 : h.2.1 - s.heap.size + 1 = (e_al h (e_R t n.toNatClampNeg (fun _ => none)) n.toNatClampNeg).2.1 - s.heap.size := by show _ = h.2.1 + 1 - s.heap.size; omega
  have a2 : h.2.2 - u0 + n.toNatClampNeg = (e_al h (e_R t n.toNatClampNeg (fun _ => none)) n.toNatClampNeg).2.2 - u0 := by show _ = h.2.2 + n.toNatClampNeg - u0; omega
  rw [a1, a2]
  rw [← hsz] at key
  exact key
theorem e_dv_ok {ci : Nat} {r : vw_C} (hC : vwCl[ci]? = some r) {ty : Nat → FieldType} (hty : ∀ j, j < r.2.2 → parseFieldDescriptor (r.2.1 j).2.2.1 = some (ty j)) {j : Nat} (hj : j < r.2.2) : defaultValue (ty j) = e_dv ci j := by
  unfold e_dv
  rw [List.getD_eq_getElem?_getD, hC, Option.getD_some, hty j hj]
theorem e_w_new {K : e_K} {x : Nat} (hg : e_GK g) (ho : (e_y k).cls = e_cn o) (hd : decode (e_c k) pc = .ok (.new x, 3)) (hK : ∀ lv st h, K lv st h → e_Wm g k Ψ (pc + 3) lv st h)
    (q : e_om (e_CT o x) (fun ci => K lv (.ref h.2.1 :: st) (e_al h (e_O ci (e_dv ci)) (e_nf ci)))) : e_Wm g k Ψ pc lv st h := by
  obtain ⟨ci, hct, q⟩ := e_om_spec q
  obtain ⟨C, hC, hw⟩ := e_CT_ok hct
  obtain ⟨hin, ⟨ty0, hty0⟩, hnm⟩ := e_cls hC
  have hN : e_nf ci = C.2.2 := by unfold e_nf; rw [List.getD_eq_getElem?_getD, hC]; rfl
  refine e_hstep (h2 := e_al h (e_O ci (e_dv ci)) (e_nf ci)) (Nat.le_succ _) (Nat.le_add_right _ _) (fun {u0 p e s m args below meth c H locs ls R Q} hu0 hm hs hl hb hr hv hc1 hc2 kk => ?_) (hK _ _ _ q)
  have hsz := hr.1
  have hc1' : h.2.1 + 1 - s.heap.size ≤ R.cells := hc1
  have hc2' : h.2.2 + e_nf ci - u0 ≤ R.slots := hc2
  have hKn := (hm.K hg).1 ci _ hC
  have hin' : ∀ w ∈ u_ws C.1 C.2.1 C.2.2, w ∈ e_ws k := fun w hw => e_tb_ws (hin w hw)
  refine W.newcK hm.1 hm.2.1 (hm.own ho) (hm.w hw) (hm.w (e_cls_in hC).1) (hm.w (e_cls_in hC).2) rfl hd (by omega) (by omega) hKn.2.1 hsz fun H1 kC hkC e1 z1 o1 => ?_
  have hB : e_B g ≤ H.size := by rw [hsz]; exact Nat.le_trans hm.2.2.2.2.2.2.2.2.2.2.2 hs
  have key := kk H1 locs ls hl (fun q hq => (o1 q (by omega)).trans (hb q hq)) (hr.al hB (fun x hx => by cases hx) (by rw [z1, hsz]) (fun q hq => o1 q (by omega)) (fun ar => ⟨C, hC, by rw [hsz]; exact (u_born ty0 hm.2.2.2.2.2.1 hin' hKn hkC e1 hty0).to (fun j hj => e_dv_ok hC hty0 hj)⟩)) hv
  have a1 : h.2.1 - s.heap.size + 1 = (e_al h (e_O ci (e_dv ci)) (e_nf ci)).2.1 - s.heap.size := by show _ = h.2.1 + 1 - s.heap.size; omega
  have a2 : h.2.2 - u0 + C.2.2 = (e_al h (e_O ci (e_dv ci)) (e_nf ci)).2.2 - u0 := by show _ = h.2.2 + e_nf ci - u0; omega
  rw [a1, a2]
  exact key
theorem e_w_cast {K : e_K} {x : Nat} (hg : e_GK g) (ho : (e_y k).cls = e_cn o) (hd : decode (e_c k) pc = .ok (.checkcast x, 3)) (hK : ∀ lv st h, K lv st h → e_Wm g k Ψ (pc + 3) lv st h)
    (q : e_om (e_CT o x) (fun ci => e_ck h ci st (K lv st h))) : e_Wm g k Ψ pc lv st h := by
  obtain ⟨ci, hct, q⟩ := e_om_spec q
  obtain ⟨C, hC, hw⟩ := e_CT_ok hct
  unfold e_ck at q; split at q
  · obtain ⟨V, ha, q⟩ := e_gO_spec q
    refine e_hstep (Nat.le_refl _) (Nat.le_refl _) (fun {u0 p e s m args below meth c H locs ls R Q} hu0 hm hs hl hb hr hv _ _ kk => ?_) (hK _ _ _ q)
    obtain ⟨-, C', hC', cell, q1, q2, q3, q4⟩ := e_obj hr ha
    cases hC.symm.trans hC'
    have hcl := ((hm.K hg).1 ci _ hC).2
    exact va_castS hm.1 hm.2.1 (hm.own ho) (hm.w hw) hcl ⟨cell, q1, by rw [q3]; rfl, by rw [q2]; exact hcl.1⟩ hd (kk H locs ls hl hb hr hv)
  · exact e_pure (fun hm hv kk => lv_castN hm.1 hm.2.1 hd (kk _ hv)) (hK _ _ _ q)
  · exact q.elim
theorem e_w_ldc {K : e_K} {x : Nat} (ho : (e_y k).cls = e_cn o) (hd : decode (e_c k) pc = .ok (.ldc x, 2)) (hK : ∀ lv st h, K lv st h → e_Wm g k Ψ (pc + 2) lv st h) (q : e_om (e_IT o x) (fun v => K lv (.int v :: st) h)) : e_Wm g k Ψ pc lv st h := by
  obtain ⟨v, hv0, q⟩ := e_om_spec q
  exact e_pure (fun hm hv kk => lv_ldc hm.1 hm.2.1 (hm.own ho) (hm.w (e_IT_ok hv0)) hd (kk _ hv)) (hK _ _ _ q)
theorem e_w_ldcw {K : e_K} {x : Nat} (ho : (e_y k).cls = e_cn o) (hd : decode (e_c k) pc = .ok (.ldc_w x, 3)) (hK : ∀ lv st h, K lv st h → e_Wm g k Ψ (pc + 3) lv st h) (q : e_om (e_IT o x) (fun v => K lv (.int v :: st) h)) : e_Wm g k Ψ pc lv st h := by
  obtain ⟨v, hv0, q⟩ := e_om_spec q
  exact e_pure (fun hm hv kk => lv_ldcw hm.1 hm.2.1 (hm.own ho) (hm.w (e_IT_ok hv0)) hd (kk _ hv)) (hK _ _ _ q)
theorem e_w_ldc2 {K : e_K} {x : Nat} (ho : (e_y k).cls = e_cn o) (hd : decode (e_c k) pc = .ok (.ldc2_w x, 3)) (hK : ∀ lv st h, K lv st h → e_Wm g k Ψ (pc + 3) lv st h) (q : e_om (e_LT o x) (fun v => K lv (.long v :: st) h)) : e_Wm g k Ψ pc lv st h := by
  obtain ⟨v, hv0, q⟩ := e_om_spec q
  exact e_pure (fun hm hv kk => lv_ldc2 hm.1 hm.2.1 (hm.own ho) (hm.w (e_LT_ok hv0)) hd (kk _ hv)) (hK _ _ _ q)
theorem e_w_ret {st : List Value} {v : Option Value} (hΨ : Ψ v h) (hstep : ∀ {u0 : Nat} {p : Program} {e : Env} {s : State} {m : MethodId} {args : Array Value} {below : List Frame} {meth : Method} {c : Code} {H : Heap} {locs : List Loc} {ls : Array Slot} {R : Room}, e_mc g k p s m args meth c → (∀ q ∈ locs, e_B g ≤ q.base) → (∀ t : State, t.heap = H → s.WarmedH t.vm → e_Qm g v h args s (.returned v) t) → W p g.1 e R s m args below meth c H locs (h.2.1 - s.heap.size) (h.2.2 - u0) (MQ below (e_Qm g v h) args s (h.2.1 - s.heap.size) (h.2.2 - u0) (fun q => e_B g ≤ q)) (F0 m pc ls st)) : e_Wm g k Ψ pc lv st h := by
  refine ⟨v, h, hΨ, Nat.le_refl _, Nat.le_refl _, ?_⟩
  intro u0 hu p e s m args below meth c H locs ls hm hs hl hb hr hv
  refine hstep hm hl (fun t ht hw => ⟨rfl, ?_, fun q hq => by rw [ht]; exact hb q hq, by rw [ht]; exact hr⟩)
  exact hm.2.2.2.2.2.2.2.2.1.trans hw.alike
theorem e_w_ireturn (hd : decode (e_c k) pc = .ok (.ireturn, 1)) (q : match st with | [.int x] => (e_rt k = some .int ∨ (e_rt k = some .boolean ∧ (x = 0 ∨ x = 1))) ∧ Ψ (some (.int x)) h | _ => False) : e_Wm g k Ψ pc lv st h := by
  split at q
  · rename_i x
    refine e_w_ret q.2 (fun {u0 p e s m args below meth c H locs ls R} hm hl hq => ?_)
    have hlk := hm.2.2.2.2.2.2.1
    rcases q.1 with hr | ⟨hr, hx⟩
    · exact W.iret hm.1 hm.2.1 (hm.2.2.2.1.trans hr) hq hl hd hlk
    · exact W.zret hm.1 hm.2.1 (hm.2.2.2.1.trans hr) (by rcases hx with rfl | rfl <;> decide) hq hl hd hlk
  · exact q.elim
theorem e_w_lreturn (hd : decode (e_c k) pc = .ok (.lreturn, 1)) (hr : e_rt k = some .long) (q : match st with | [.long x] => Ψ (some (.long x)) h | _ => False) : e_Wm g k Ψ pc lv st h := by
  split at q
  · exact e_w_ret q (fun {u0 p e s m args below meth c H locs ls R} hm hl hq => W.lret hm.1 hm.2.1 (hm.2.2.2.1.trans hr) hq hl hd hm.2.2.2.2.2.2.1)
  · exact q.elim
theorem e_w_areturn {rt : FieldType} (hd : decode (e_c k) pc = .ok (.areturn, 1)) (hr : e_rt k = some rt) (hrt : (∃ n, rt = .object n) ∨ ∃ t, rt = .array t) (q : match st with | [.ref a] => Ψ (some (.ref a)) h | [.null] => Ψ (some .null) h | _ => False) : e_Wm g k Ψ pc lv st h := by
  split at q
  · exact e_w_ret q (fun {u0 p e s m args below meth c H locs ls R} hm hl hq => W.aret hm.1 hm.2.1 (hm.2.2.2.1.trans hr) hrt (Or.inr ⟨_, rfl⟩) hq hl hd hm.2.2.2.2.2.2.1)
  · exact e_w_ret q (fun {u0 p e s m args below meth c H locs ls R} hm hl hq => W.aret hm.1 hm.2.1 (hm.2.2.2.1.trans hr) hrt (Or.inl rfl) hq hl hd hm.2.2.2.2.2.2.1)
  · exact q.elim
theorem e_w_return (hd : decode (e_c k) pc = .ok (.return_, 1)) (hr : e_rt k = none) (q : match st with | [] => Ψ none h | _ => False) : e_Wm g k Ψ pc lv st h := by
  split at q
  · exact e_w_ret q (fun {u0 p e s m args below meth c H locs ls R} hm hl hq => W.vret hm.1 hm.2.1 (hm.2.2.2.1.trans hr) hq hl hd hm.2.2.2.2.2.2.1)
  · exact q.elim
end AR
