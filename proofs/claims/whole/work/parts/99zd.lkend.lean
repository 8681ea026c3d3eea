/-! locks when an act ends: the fresh ones go (a finding), or are fresh no more -/
section TG
variable {Z Z' : k_Z} {P P' : k_P} {U U' : k_U} {S S' : m_S} {own n b nl nl' nw t : Nat} {dr : Bool} {ch ch' : Nat → List Nat}
def uf (t : Nat) (x : v_LT) : v_LT := if x.1 = nI t then (x.1, x.2.1, x.2.2.1, x.2.2.2.1, x.2.2.2.2.1, x.2.2.2.2.2.1, 0) else x
def kp (dr : Bool) (t : Nat) (x : v_LT) : Bool := !(dr && (x.1 == nI t) && (x.2.2.2.2.2.2 != 0))
theorem uf_1 {x : v_LT} : (uf t x).1 = x.1 ∧ (uf t x).2.1 = x.2.1 ∧ (uf t x).2.2.1 = x.2.2.1 ∧ (uf t x).2.2.2.1 = x.2.2.2.1 ∧ (uf t x).2.2.2.2.1 = x.2.2.2.2.1 ∧ (uf t x).2.2.2.2.2.1 = x.2.2.2.2.2.1 ∧ ((uf t x).2.2.2.2.2.2 = if x.1 = nI t then 0 else x.2.2.2.2.2.2) := by
  unfold uf
  by_cases c : x.1 = nI t
  · rw [if_pos c, if_pos c]; exact ⟨rfl, rfl, rfl, rfl, rfl, rfl, rfl⟩
  · rw [if_neg c, if_neg c]; exact ⟨rfl, rfl, rfl, rfl, rfl, rfl, rfl⟩
def fp_lk : List Nat := [47, 55, 51, 4, 71, 7, 67, 68, 69, 70, 81, 82, 83, 84, 85, 86]
theorem flt_uf {p : v_LT → Bool} (hp : ∀ x, p (uf t x) = p x) : ∀ (L : List v_LT), (((L.filter (kp dr t)).map (uf t)).filter p).length ≤ (L.filter p).length
  | [] => Nat.le_refl _
  | x :: L => by
    have ih := flt_uf hp L
    by_cases c : kp dr t x = true
    · rw [List.filter_cons_of_pos c, List.map_cons]
      by_cases d : p x = true
      · rw [List.filter_cons_of_pos (by rw [hp]; exact d), List.filter_cons_of_pos d, List.length_cons, List.length_cons]; omega
      · rw [List.filter_cons_of_neg (by rw [hp]; exact d), List.filter_cons_of_neg d]; exact ih
    · rw [List.filter_cons_of_neg c]
      refine Nat.le_trans ih ?_
      by_cases d : p x = true
      · rw [List.filter_cons_of_pos d, List.length_cons]; omega
      · rw [List.filter_cons_of_neg d]; exact Nat.le_refl _
theorem xl_uf {u : Nat} (L : List v_LT) : (xl u ((L.filter (kp dr t)).map (uf t))).length ≤ (xl u L).length := flt_uf (fun x => by
  obtain ⟨e1, e2, e3, _⟩ := uf_1 (t := t) (x := x)
  rw [e1, e3]) L
theorem I_lk.fin (h : I_lk n b nl nw t ch S) (h1 : 1 ≤ t) (hb : b ≤ 400) (eA : ∀ f ∈ fp_lk, S'.2 f = S.2 f) (el : S'.1 72 = nI nl') (ew : S'.1 80 = S.1 80) (vL : v_L nl' S'.2 = ((v_L nl S.2).filter (kp dr t)).map (uf t)) (st : S.2 47 t = 1)
    (lnk : ∀ u, 1 ≤ u → u ≤ b → undw S'.2 u → ∀ p i, (ch' u).reverse[p]? = some i → S'.2 36 i = 8 ∨ S'.2 36 i = 9 ∨ S'.2 36 i = 12 ∨ S'.2 36 i = 13 → ∃ x ∈ v_L nl' S'.2, x.1 = nI u ∧ x.2.1 = S'.2 35 i ∧ x.2.2.1 = 4 ∧ x.2.2.2.1 = S'.2 36 i ∧ x.2.2.2.2.1 = S'.2 37 i ∧ x.2.2.2.2.2.2 = 0 ∧ ∃ v, v ≤ 4 ∧ x.2.2.2.2.2.1 = nI v ∧ (1 ≤ v → (S'.2 54 (5 * u + v)).toNatClampNeg ≤ p)) : I_lk n b nl' nw 0 ch' S' := by
  obtain ⟨k1, k2, k3, k4, k5, k6, k7, k8, k9, k10, k11, ⟨kq, G, k13⟩, k12⟩ := h
  have vW : v_W nw S'.2 = v_W nw S.2 := v_W_cg (fun f hf => eA f (by revert f; decide))
  have mem : ∀ x ∈ v_L nl' S'.2, ∃ y ∈ v_L nl S.2, kp dr t y = true ∧ x = uf t y := fun x hx => by
    rw [vL] at hx
    obtain ⟨y, hy, e⟩ := List.mem_map.mp hx
    exact ⟨y, (List.mem_filter.mp hy).1, (List.mem_filter.mp hy).2, e.symm⟩
  have est := eA 47 (by decide)
  have un : ∀ u, undw S'.2 u ↔ undw S.2 u := fun u => by unfold undw; rw [est]
  have inn : ∀ u, 1 ≤ u → (inp S'.2 0 u → inp S.2 t u) := fun u u1 z => by
    unfold inp at z ⊢
    rw [est] at z
    rcases z with z | z
    · exact Or.inl z
    · omega
  have ek1 : ∀ u, kd_1 S'.2 u = kd_1 S.2 u := fun u => by unfold kd_1; rw [eA 68 (by decide), eA 67 (by decide), eA 70 (by decide)]
  have ek2 : ∀ u, kd_2 S'.2 u = kd_2 S.2 u := fun u => by unfold kd_2; rw [eA 68 (by decide), eA 67 (by decide), eA 70 (by decide)]
  refine ⟨el, ew.trans k2, k3, ?_, fun x hx => ?_, fun x hx => ?_, by rw [vW]; exact k7, fun u u1 u2 z => ?_, fun x hx y hy hxy hne => ?_, ?_, fun u u1 u2 z => ?_, ⟨fun x hx y hy z => ?_, G, fun u u1 u2 z => ?_⟩, lnk⟩
  · unfold w_ah; rw [eA _ (by decide)]; exact k4
  · obtain ⟨y, y1, y2, y3⟩ := mem x hx
    obtain ⟨u, o, v, a1, a2, a3, a4, a5, a6, a7, a8, a9, b1, b2, b3⟩ := k5 y y1
    obtain ⟨e1, e2, e3, e4, e5, e6, e7⟩ := uf_1 (t := t) (x := y)
    rw [y3]
    refine ⟨u, o, v, e1.trans a1, a2, a3, (un u).mpr a4, e2.trans a5, a6, by rw [e3]; exact a7, by rw [e3, e4]; exact a8, e6.trans a9, b1, by rw [eA _ (by decide)]; exact b2, ?_⟩
    rw [e7]
    by_cases c : y.1 = nI t
    · rw [if_pos c]; exact Or.inl rfl
    · rw [if_neg c]
      rcases b3 with b3 | ⟨b3, b4⟩
      · exact Or.inl b3
      · refine Or.inr ⟨b3, Or.inl ?_⟩
        rw [est]
        rcases b4 with b4 | b4
        · exact b4
        · exact absurd (by rw [a1, b4]) c
  · rw [vW] at hx
    have := k6 x hx
    unfold I_w1 dp o_1 at this ⊢
    rw [est, eA 68 (by decide), eA 71 (by decide), eA 7 (by decide), eA 67 (by decide), eA 69 (by decide), eA 70 (by decide)]
    exact this
  · rw [vW]
    exact k8 u u1 u2 (by rw [← est]; exact z)
  · obtain ⟨x', x1, x2, x3⟩ := mem x hx
    obtain ⟨y', y1, y2, y3⟩ := mem y hy
    obtain ⟨e1, e2, e3, e4, e5, e6, e7⟩ := uf_1 (t := t) (x := x')
    obtain ⟨f1, f2, f3, f4, f5, f6, f7⟩ := uf_1 (t := t) (x := y')
    rw [x3, y3] at hxy hne ⊢
    rw [e2, f2] at hxy
    rw [e1, f1] at hne
    rw [e2, e3, e4, e5, f3, f4, f5, eA _ (by decide)]
    exact k9 x' x1 y' y1 hxy hne
  · rw [vL, List.pairwise_map]
    refine (k10.sublist List.filter_sublist).imp (fun {x y} hn z => hn ?_)
    obtain ⟨e1, e2, e3, e4, e5, e6, e7⟩ := uf_1 (t := t) (x := x)
    obtain ⟨f1, f2, f3, f4, f5, f6, f7⟩ := uf_1 (t := t) (x := y)
    unfold eqL at z ⊢
    rw [e1, e2, e3, e4, e5, f1, f2, f3, f4, f5] at z
    exact z
  · rw [vL, eA 55 (by decide)]
    have q1 := xl_uf (dr := dr) (t := t) (u := u) (v_L nl S.2)
    have q2 := k11 u u1 u2 ((un u).mp z)
    have q3 : rem7 S'.2 0 u ≤ rem7 S.2 t u := by
      unfold rem7 dp o_1
      rw [est, eA 68 (by decide), eA 71 (by decide), eA 7 (by decide), eA 67 (by decide), eA 70 (by decide)]
      by_cases c : S.2 47 u = 2
      · rw [if_pos (Or.inl c), if_pos (Or.inl c)]; exact Nat.le_refl _
      · rw [if_neg (fun y => by rcases y with y | y; exact c y; omega)]; exact Nat.zero_le _
    omega
  · rw [vW] at hx
    obtain ⟨y', y1, y2, y3⟩ := mem y hy
    obtain ⟨f1, f2, f3, f4, f5, f6, f7⟩ := uf_1 (t := t) (x := y')
    refine kq x hx y' y1 ?_
    unfold eqL at z ⊢
    rw [y3, f1, f2, f3, f4, f5] at z
    exact z
  · obtain ⟨j1, j2, j3, j4⟩ := k13 u u1 u2 ((un u).mp z)
    rw [vW, ek1, ek2, eA 55 (by decide), eA 69 (by decide)]
    refine ⟨j1, fun x hx e w => ?_, j3, fun w => j4 (inn u u1 w)⟩
    obtain ⟨x', x1, x2, x3⟩ := mem x hx
    obtain ⟨e1, e2, e3, e4, e5, e6, e7⟩ := uf_1 (t := t) (x := x')
    rw [x3, e1] at e
    rw [x3, e3] at w
    rw [x3, e3, e4, e5]
    exact j2 x' x1 e w
/-- two lists of which one mirrors the other -/
theorem fm_eq {α β γ δ : Type} {f : α → γ} {g : β → γ} {f' : α → δ} {g' : β → δ} {p : α → Bool} {q : β → Bool} : ∀ {l1 : List α} {l2 : List β}, l1.map f = l2.map g → (∀ a ∈ l1, ∀ b ∈ l2, f a = g b → p a = q b ∧ f' a = g' b) → (l1.filter p).map f' = (l2.filter q).map g'
  | [], [], _, _ => rfl
  | [], _ :: _, h, _ => by cases h
  | _ :: _, [], h, _ => by cases h
  | a :: l1, b :: l2, h, H => by
    rw [List.map_cons, List.map_cons, List.cons.injEq] at h
    obtain ⟨z1, z2⟩ := H a (List.mem_cons_self ..) b (List.mem_cons_self ..) h.1
    have ih := fm_eq (p := p) (q := q) (f' := f') (g' := g') h.2 (fun x hx y hy => H x (List.mem_cons_of_mem _ hx) y (List.mem_cons_of_mem _ hy))
    by_cases c : p a = true
    · rw [List.filter_cons_of_pos c, List.filter_cons_of_pos (z1 ▸ c), List.map_cons, List.map_cons, z2, ih]
    · rw [List.filter_cons_of_neg c, List.filter_cons_of_neg (fun e => c (z1.trans e)), ih]
theorem vLO_uf {o : Int32} {L : List v_LT} : v_LO o ((L.filter (kp dr t)).map (uf t)) = ((v_LO o L).filter (kp dr t)).map (uf t) := by
  unfold v_LO
  rw [List.filter_map, List.filter_filter, List.filter_filter]
  congr 1
  refine List.filter_congr (fun x _ => ?_)
  show ((uf t x).2.1 == o && kp dr t x) = _
  rw [uf_1.2.1, Bool.and_comm]
theorem LN_uf {x : v_LT} : LN (uf t x) = ((LN x).1, (LN x).2.1, (LN x).2.2.1, (LN x).2.2.2.1, (LN x).2.2.2.2.1, (LN x).2.2.2.2.2.1, if x.1 = nI t then 0 else x.2.2.2.2.2.2) := by
  obtain ⟨e1, e2, e3, e4, e5, e6, e7⟩ := uf_1 (t := t) (x := x)
  unfold LN
  rw [e1, e2, e3, e4, e5, e6, e7]
theorem K_lk.fin (h : K_lk own n b nl nw t Z P U S) (hI : I_lk n b nl nw t ch S) (h1 : 1 ≤ t) (h2 : t ≤ b) (hb : b ≤ 400) (e14 : (U.2.1 (own + 14)).length = b) (nd14 : (U.2.1 (own + 14)).Nodup) (num : ∀ u, 1 ≤ u → u ≤ b → P.1 40 (dl U own u) = nI u) (pst : ∀ u, 1 ≤ u → u ≤ b → P.1 43 (dl U own u) = S.2 47 u) (pas : ∀ u, 1 ≤ u → u ≤ b → P.1 47 (dl U own u) = S.2 55 u) (nown : ∀ u, 1 ≤ u → u ≤ b → dl U own u ≠ own)
    (st : S.2 47 t = 1) (ask : ∀ u, 1 ≤ u → u ≤ b → ∃ q, S.2 55 u = nI q ∧ q ≤ 600)
    (u14 : U'.2.1 (own + 14) = U.2.1 (own + 14)) (spU : ∀ o, k_sp U' own o = k_sp U own o) (kSp : k_Sp U' own n) (eh : ∀ o, o < n → k_hl U' own o = (k_hl U own o).filter (fun y => !(dr && k_goes Z P (dl U own t) 0 (S.2 55 t) y))) (eq : ∀ o, o < n → k_ql U' own o = k_ql U own o)
    (fZ : ∀ o y, o < n → y ∈ k_hl U own o ∨ y ∈ k_ql U own o → Z'.2.2 y = Z.2.2 y ∧ ∀ f ∈ [61, 62, 63, 64, 66, 65, 67], P'.1 f y = P.1 f y) (fD : ∀ u, 1 ≤ u → u ≤ b → ∀ f ∈ [40, 43, 47], P'.1 f (dl U own u) = P.1 f (dl U own u)) (fS : ∀ o, o < n → P'.1 180 (k_sp U own o) = P.1 180 (k_sp U own o)) (fW : ∀ u, 1 ≤ u → u ≤ b → U'.1 (dl U own u) = U.1 (dl U own u))
    (eA : ∀ f ∈ fp_lk, S'.2 f = S.2 f) (vL : v_L nl' S'.2 = ((v_L nl S.2).filter (kp dr t)).map (uf t)) : K_lk own n b nl' nw 0 Z' P' U' S' := by
  obtain ⟨g1, g2, g3, g4, g5, g6⟩ := h
  have est := eA 47 (by decide)
  have un : ∀ u, undw S'.2 u ↔ undw S.2 u := fun u => by unfold undw; rw [est]
  have dlU : ∀ u, dl U' own u = dl U own u := fun u => by unfold dl; rw [u14]
  have vW : v_W nw S'.2 = v_W nw S.2 := v_W_cg (fun f hf => eA f (by revert f; decide))
  have t0 : ¬ t = 0 := by omega
  refine ⟨kSp, fun o ho => ⟨?_, ?_, by rw [spU, fS o ho, eA _ (by decide)]; exact (g2 o ho).2.2⟩, fun o ho y hy => ?_, fun o ho y hy => ?_, fun o ho => ?_, fun u u1 u2 => ?_⟩
  · rw [eh o ho, vL, vLO_uf, List.map_map, if_pos rfl]
    have e := (g2 o ho).1
    rw [if_neg t0] at e
    refine fm_eq e (fun y hy x hx exy => ?_)
    obtain ⟨u, q, c1, c2, c3, c4, c5, c6⟩ := g3 o ho y hy
    obtain ⟨fz, fp⟩ := fZ o y ho (Or.inl hy)
    obtain ⟨u', o', v, a1, a2, a3, a4, a5, a6, a7, a8, a9, b1, b2, b3⟩ := hI.2.2.2.2.1 x (List.mem_filter.mp hx).1
    have en : nI u = x.1 := by
      have := congrArg (fun z : v_LT => z.1) exy
      dsimp only [LV, LN] at this
      rw [c4, num u c1 c2] at this
      exact this
    have ev : P.1 66 y = nI v := by
      have := congrArg (fun z : v_LT => z.2.2.2.2.2.1) exy
      dsimp only [LV, LN] at this
      rw [this]; exact a9
    have ef : b_v (decide (P.1 65 y = P.1 47 (dl U own u)) && (decide (P.1 43 (dl U own u) = 2) || decide (dl U own u = dl U own t))) = x.2.2.2.2.2.2 := by
      have := congrArg (fun z : v_LT => z.2.2.2.2.2.2) exy
      dsimp only [LV, LN] at this
      rw [c4] at this
      exact this
    obtain ⟨qa, qa1, qa2⟩ := ask u c1 c2
    rw [qa1, i_cl (by omega)] at c6
    have tt : x.1 = nI t ↔ u = t := by rw [← en, i_eq (by omega) (by omega)]
    have lt : LV Z' P' own y = (P.1 40 (Z.2.2 y), P.1 61 y, P.1 62 y, P.1 63 y, P.1 64 y, P.1 66 y, b_v (decide (P.1 65 y = P.1 47 (dl U own u)) && (decide (P.1 43 (dl U own u) = 2) || decide (dl U own u = own)))) := by
      unfold LV
      rw [fz, c4, fD u c1 c2 _ (by decide), fD u c1 c2 _ (by decide), fD u c1 c2 _ (by decide), fp _ (by decide), fp _ (by decide), fp _ (by decide), fp _ (by decide), fp _ (by decide), fp _ (by decide)]
    have rest : ∀ w : Int32, b_v (decide (P.1 65 y = P.1 47 (dl U own u)) && (decide (P.1 43 (dl U own u) = 2) || decide (dl U own u = own))) = w → LV Z' P' own y = ((LN x).1, (LN x).2.1, (LN x).2.2.1, (LN x).2.2.2.1, (LN x).2.2.2.2.1, (LN x).2.2.2.2.2.1, w) := fun w e => by rw [lt, e, ← exy]; rfl
    show _ ∧ LV Z' P' own y = LN (uf t x)
    by_cases cu : u = t
    · subst cu
      have s2 : decide (P.1 43 (dl U own u) = 2) = false := decide_eq_false (fun z => by rw [pst u c1 c2, st] at z; exact absurd z (by decide))
      rw [s2, Bool.false_or, decide_eq_true rfl, Bool.and_true] at ef
      refine ⟨?_, ?_⟩
      · unfold kp
        rw [← ef, ← en]
        congr 1
        rw [Bool.and_assoc]
        congr 1
        unfold k_goes
        rw [decide_eq_true c4, Bool.true_and, ev, decide_eq_true (nI_pos' (by omega)), Bool.true_and, pas u c1 c2, qa1, c5]
        have e1 : (nI qa ≤ nI q) = (q = qa) := by rw [i_le (by omega) (by omega)]; exact propext ⟨fun z => by omega, fun z => by omega⟩
        have e2 : (nI q = nI qa) = (q = qa) := i_eq (by omega) (by omega)
        simp only [e1, e2]
        by_cases cq : q = qa
        · simp [cq, b_v]
        · simp [cq, b_v]
      · rw [LN_uf, if_pos (tt.mpr rfl)]
        refine rest 0 ?_
        rw [s2, decide_eq_false (nown u c1 c2), Bool.or_self, Bool.and_false]
        rfl
    · have dne : ¬ dl U own u = dl U own t := fun z => cu (dl_inj e14 nd14 c1 c2 h1 h2 z)
      refine ⟨?_, ?_⟩
      · have k0 : k_goes Z P (dl U own t) 0 (S.2 55 t) y = false := by
          unfold k_goes
          rw [c4, decide_eq_false dne, Bool.false_and, Bool.false_and]
        have k1 : (x.1 == nI t) = false := by rw [beq_eq_false_iff_ne]; exact fun z => cu (tt.mp z)
        unfold kp
        rw [k0, k1, Bool.and_false, Bool.false_and]
      · rw [LN_uf, if_neg (fun z => cu (tt.mp z))]
        refine rest _ ?_
        rw [← ef, decide_eq_false (nown u c1 c2), decide_eq_false dne]
  · rw [eq o ho, vW, ← (g2 o ho).2.1]
    refine List.map_congr_left (fun y hy => ?_)
    obtain ⟨u, c1, c2, c3, c4, _⟩ := g4 o ho y hy
    obtain ⟨fz, fp⟩ := fZ o y ho (Or.inr hy)
    unfold WV
    rw [fz, c4, fD u c1 c2 _ (by decide), fp _ (by decide), fp _ (by decide), fp _ (by decide), fp _ (by decide), fp _ (by decide)]
  · rw [eh o ho] at hy
    have hy := (List.mem_filter.mp hy).1
    obtain ⟨u, q, c1, c2, c3, c4, c5, c6⟩ := g3 o ho y hy
    obtain ⟨fz, fp⟩ := fZ o y ho (Or.inl hy)
    exact ⟨u, q, c1, c2, (un u).mpr c3, by rw [fz, dlU]; exact c4, by rw [fp _ (by decide)]; exact c5, by rw [eA _ (by decide)]; exact c6⟩
  · rw [eq o ho] at hy
    obtain ⟨u, c1, c2, c3, c4, c5, c6, c7⟩ := g4 o ho y hy
    obtain ⟨fz, fp⟩ := fZ o y ho (Or.inr hy)
    exact ⟨u, c1, c2, by rw [est]; exact c3, by rw [fz, dlU]; exact c4, by rw [dlU, fW u c1 c2]; exact c5, by rw [fp _ (by decide), eA _ (by decide)]; exact c6, by rw [fp _ (by decide), eA _ (by decide)]; exact c7⟩
  · rw [eh o ho]
    exact (g5 o ho).sublist List.filter_sublist
  · obtain ⟨q1, q2⟩ := g6 u u1 u2
    rw [dlU, fW u u1 u2, est]
    refine ⟨q1, fun y hy => ?_⟩
    obtain ⟨o, o1, o2, o3, o4⟩ := q2 y hy
    obtain ⟨fz, fp⟩ := fZ o y o1 (Or.inr o2)
    exact ⟨o, o1, by rw [eq o o1]; exact o2, by rw [fz]; exact o3, by rw [fp _ (by decide)]; exact o4⟩
end TG
