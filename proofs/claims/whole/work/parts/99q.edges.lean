/-! who waits for whom: the class's bits are the reference's answers -/
section SS
variable {Z : k_Z} {P : k_P} {U : k_U} {r : Nat × Nat} {S : m_S} {A : m_A} {N own n b l nl nw nr na ne t u o i cur c T x : Nat} {s : Int32} {ch : Nat → List Nat}
theorem blk_bit {q : Nat} (hq : q < 32) : ∀ (L : List Nat) (m : Int32), (∀ y ∈ L, ∃ i, i < 32 ∧ P.1 52 (Z.2.2 y) = nI i) → k_b (k_blk Z P s x L m) q = (k_b m q || L.any (fun y => k_cf Z P s x y && P.1 52 (Z.2.2 y) == nI q))
  | [], m, _ => by rw [k_blk, List.any_nil, Bool.or_false]
  | y :: L, m, h => by
    rw [k_blk, blk_bit hq L _ (fun z hz => h z (List.mem_cons_of_mem _ hz)), List.any_cons]
    obtain ⟨i, hi, e⟩ := h y List.mem_cons_self
    by_cases c : k_cf Z P s x y = true
    · rw [if_pos c, c, Bool.true_and, e, k_bor, k_bone i hi q hq, Bool.or_assoc]
      congr 2
      rw [Bool.eq_iff_iff, decide_eq_true_eq, beq_iff_eq, i_eq (by omega) (by omega)]
    · rw [if_neg c, Bool.eq_false_iff.mpr c, Bool.false_and, Bool.false_or]
/-- where the wait of one is -/
def wpos (nw : Nat) (A : m_A) (t : Nat) : Nat := (v_W nw A).findIdx (fun x => x.1 == nI t)
theorem wpos_ok (hI : I_all n b l nl nw nr na ne ch cur c T S) (h1 : 1 ≤ t) (h2 : t ≤ b) (st : S.2 47 t = 2) : wpos nw S.2 t < nw ∧ w_pos S.2 (wpos nw S.2) t ∧ ∃ o, o < n ∧ S.2 82 (wpos nw S.2 t) = nI o := by
  obtain ⟨hL, hD, hE, hK, hV, hM, hP, hX⟩ := hI
  have n40 := hL.2.2.1.1
  obtain ⟨x, xm, xt⟩ := hK.2.2.2.2.2.2.2.1 t h1 h2 st
  have lt : wpos nw S.2 t < (v_W nw S.2).length := List.findIdx_lt_length_of_exists ⟨x, xm, by rw [beq_iff_eq]; exact xt⟩
  have ge := List.findIdx_getElem (p := fun x : v_WT => x.1 == nI t) (w := lt)
  have lt' := lt
  rw [v_Wl] at lt'
  have e : (v_W nw S.2)[wpos nw S.2 t]? = some (v_w S.2 (wpos nw S.2 t)) := by rw [v_Wg, if_pos lt']
  have e2 : (v_W nw S.2)[wpos nw S.2 t] = v_w S.2 (wpos nw S.2 t) := (List.getElem?_eq_some_iff.mp e).2
  have w0 : S.2 81 (wpos nw S.2 t) = nI t := by
    have ge : (((v_W nw S.2)[wpos nw S.2 t]).1 == nI t) = true := ge
    rw [e2, beq_iff_eq] at ge
    exact ge
  have hm : v_w S.2 (wpos nw S.2 t) ∈ v_W nw S.2 := List.mem_of_getElem? e
  obtain ⟨_, o, _, _, _, _, c5, c6, _⟩ := hK.2.2.2.2.2.1 _ hm
  have nw12 := hK.2.2.1
  refine ⟨lt', ⟨by omega, w0, fun j hj z => ?_, o, by omega, c5⟩, o, c6, c5⟩
  have := List.not_of_lt_findIdx (p := fun x : v_WT => x.1 == nI t) (xs := v_W nw S.2) (i := j) hj
  have ej : (v_W nw S.2)[j]? = some (v_w S.2 j) := by rw [v_Wg, if_pos (by omega)]
  have ej2 : (v_W nw S.2)[j]'(by rw [v_Wl]; omega) = v_w S.2 j := (List.getElem?_eq_some_iff.mp ej).2
  rw [ej2] at this
  have this : ¬ (S.2 81 j == nI t) = true := by simpa [v_w] using this
  rw [beq_iff_eq] at this
  exact this z
theorem edge_ok (hI : I_all n b l nl nw nr na ne ch cur c T S) (hK : K_all N own n b l nl nw nr ne ch cur Z P U r S) {q : Nat} (h1 : 1 ≤ t) (h2 : t ≤ b) (ht : undw S.2 t) (hq : (v_lv l S.2)[q]? = some u) : k_b (k_wf Z P U own (dl U own t)) q = y_wf (wpos nw S.2) nl S.2 t u := by
  have hI0 := hI
  have hK0 := hK
  obtain ⟨hL, hD, hE, hLk, hV, hM, hP, hX⟩ := hI
  obtain ⟨E, kLg, hs1, hs5, kDe, kEn, kAs, kLk, kVe, kMi⟩ := hK
  obtain ⟨d1, d2, d3, d4, d5, d6, d7, d8, d9, d10, d11⟩ := hD
  obtain ⟨e1, e2, e3, e4, e5, e6, e7⟩ := kDe
  have kLk0 := kLk
  obtain ⟨j1, j2, j3, j4, j5, j6⟩ := kLk
  have n40 : n ≤ 40 := hL.2.2.1.1
  have ql : q < l := by have := (List.getElem?_eq_some_iff.mp hq).1; rw [v_lvl] at this; exact this
  have hu := (d9 u).mp (List.mem_of_getElem? hq)
  by_cases st : S.2 47 t = 2
  · obtain ⟨k1, ⟨_, k2, _, _⟩, o, ho, eo⟩ := wpos_ok hI0 h1 h2 st
    obtain ⟨y, y1, y2, y3, y4⟩ := can_ok hI0 hK0 k1 ho eo
    have ym : y ∈ k_ql U own o := List.mem_of_getElem? y1
    obtain ⟨v, b1, b2, b3, b4, b5, b6, b7⟩ := j4 o ho y ym
    have enum : P.1 40 (Z.2.2 y) = nI t := Eq.trans (congrArg (fun z : v_WT => z.1) y2) k2
    have vt : v = t := by
      rw [b4, (e3 v b1 b2).1, i_eq (by omega) (by omega)] at enum
      exact enum
    subst vt
    have pl := ql_place kLk0 ho ym
    have ix : k_ix y (k_ql U own o) = (v_WO (nI o) ((v_W nw S.2).take (wpos nw S.2 v))).length := by
      obtain ⟨hi, ei⟩ := List.getElem?_eq_some_iff.mp y1
      have := k_ix_get (ql_nd hLk kLk0 ho) hi
      rw [ei] at this
      exact this
    have hx0 : (v_W nw S.2)[wpos nw S.2 v]? = some (v_w S.2 (wpos nw S.2 v)) := by rw [v_Wg, if_pos k1]
    have w2 : P.1 62 y = S.2 83 (wpos nw S.2 v) := congrArg (fun z : v_WT => z.2.2.1) y2
    have w3 : P.1 63 y = if S.2 83 (wpos nw S.2 v) = 4 then S.2 84 (wpos nw S.2 v) else -9 := congrArg (fun z : v_WT => z.2.2.2.1) y2
    have w4 : P.1 64 y = if S.2 83 (wpos nw S.2 v) = 4 then S.2 85 (wpos nw S.2 v) else -9 := congrArg (fun z : v_WT => z.2.2.2.2.1) y2
    have hpf := pos_filt (p := fun x : v_WT => x.2.1 == nI o) hx0 (by simp only [v_w, beq_iff_eq]; exact eo)
    have hq3 : ((k_ql U own o).take (v_WO (nI o) ((v_W nw S.2).take (wpos nw S.2 v))).length).map (WV Z P) = (v_WO (nI o) ((v_W nw S.2).take (wpos nw S.2 v))).map WN := by
      have f2 : (v_WO (nI o) (v_W nw S.2)).take (v_WO (nI o) ((v_W nw S.2).take (wpos nw S.2 v))).length = v_WO (nI o) ((v_W nw S.2).take (wpos nw S.2 v)) := hpf.2.1
      rw [List.map_take, (j2 o ho).2.1, ← List.map_take, f2]
    have seat : ∀ w, 1 ≤ w → w ≤ b → undw S.2 w → ∃ i, i < 32 ∧ P.1 52 (dl U own w) = nI i ∧ (v_lv l S.2)[i]? = some w := fun w u1 u2 hu => by
      obtain ⟨i, hi, ei⟩ := List.getElem_of_mem ((d9 w).mpr ⟨u1, u2, hu⟩)
      have hi' := hi
      rw [v_lvl] at hi'
      have e : (v_lv l S.2)[i]? = some w := by rw [List.getElem?_eq_getElem hi, ei]
      exact ⟨i, by omega, e7 i w e, e⟩
    have ownH : ∀ y' ∈ k_hl U own o, ∃ w, 1 ≤ w ∧ w ≤ b ∧ undw S.2 w ∧ Z.2.2 y' = dl U own w := fun y' hy => by
      obtain ⟨w, x, a1, a2, a3, a4, a5, a6⟩ := j3 o ho y' hy
      exact ⟨w, a1, a2, a3, a4⟩
    have ownQ : ∀ y' ∈ k_ql U own o, ∃ w, 1 ≤ w ∧ w ≤ b ∧ undw S.2 w ∧ Z.2.2 y' = dl U own w := fun y' hy => by
      obtain ⟨w, a1, a2, a3, a4, a5, a6, a7⟩ := j4 o ho y' hy
      exact ⟨w, a1, a2, Or.inr a3, a4⟩
    have st32 : ∀ y', (∃ w, 1 ≤ w ∧ w ≤ b ∧ undw S.2 w ∧ Z.2.2 y' = dl U own w) → ∃ i, i < 32 ∧ P.1 52 (Z.2.2 y') = nI i := fun y' ⟨w, a1, a2, a3, a4⟩ => by
      obtain ⟨i, i1, i2, _⟩ := seat w a1 a2 a3
      exact ⟨i, i1, by rw [a4]; exact i2⟩
    -- one lock against the wait, and whose it is
    have one : ∀ y', (∃ w, 1 ≤ w ∧ w ≤ b ∧ undw S.2 w ∧ Z.2.2 y' = dl U own w) → (k_cf Z P (P.1 180 (k_sp U own o)) y y' && P.1 52 (Z.2.2 y') == nI q) = (P.1 40 (Z.2.2 y') != nI v && y_cf (S.2 4 o) (S.2 83 (wpos nw S.2 v)) (if S.2 83 (wpos nw S.2 v) = 4 then S.2 84 (wpos nw S.2 v) else -9) (if S.2 83 (wpos nw S.2 v) = 4 then S.2 85 (wpos nw S.2 v) else -9) (P.1 62 y') (P.1 63 y') (P.1 64 y') && P.1 40 (Z.2.2 y') == nI u) := fun y' ⟨w, a1, a2, a3, a4⟩ => by
      obtain ⟨i, i1, i2, i3⟩ := seat w a1 a2 a3
      unfold k_cf
      rw [b4, a4, w2, w3, w4, (j2 o ho).2.2, i2, (e3 w a1 a2).1]
      congr 1
      · congr 1
        rw [Bool.eq_iff_iff, decide_eq_true_eq, bne_iff_ne, ne_eq, i_eq (by omega) (by omega)]
        exact ⟨fun z e => z (by rw [e]), fun z e => z (dl_inj e1 e2 a1 a2 b1 b2 e.symm)⟩
      · rw [Bool.eq_iff_iff, beq_iff_eq, beq_iff_eq, i_eq (by omega) (by omega), i_eq (by omega) (by omega)]
        constructor
        · intro e
          rw [e, hq] at i3
          exact (Option.some.inj i3).symm
        · intro e
          subst e
          exact idx_inj (pw_nd d8) i3 hq
    unfold k_wf
    rw [b5]
    dsimp only
    rw [pl, i_cl (by omega), ix, blk_bit (by omega) _ _ (fun y' hy => st32 y' (ownQ y' (List.mem_of_mem_take hy))), blk_bit (by omega) _ _ (fun y' hy => st32 y' (ownH y' hy)), k_b0, Bool.false_or]
    have eH : (k_hl U own o).any (fun y' => k_cf Z P (P.1 180 (k_sp U own o)) y y' && P.1 52 (Z.2.2 y') == nI q) = (v_LO (nI o) (v_L nl S.2)).any (fun z => z.1 != nI v && y_cf (S.2 4 o) (S.2 83 (wpos nw S.2 v)) (S.2 84 (wpos nw S.2 v)) (S.2 85 (wpos nw S.2 v)) z.2.2.1 z.2.2.2.1 z.2.2.2.2.1 && z.1 == nI u) := by
      refine any_map_eq (h := fun z : v_LT => z.1 != nI v && y_cf (S.2 4 o) (S.2 83 (wpos nw S.2 v)) (if S.2 83 (wpos nw S.2 v) = 4 then S.2 84 (wpos nw S.2 v) else -9) (if S.2 83 (wpos nw S.2 v) = 4 then S.2 85 (wpos nw S.2 v) else -9) z.2.2.1 z.2.2.2.1 z.2.2.2.2.1 && z.1 == nI u) (j2 o ho).1 (fun y' hy => one y' (ownH y' hy)) (fun z hz => ?_)
      unfold LN
      dsimp only
      rw [cf_norm]
    have eQ : ((k_ql U own o).take (v_WO (nI o) ((v_W nw S.2).take (wpos nw S.2 v))).length).any (fun y' => k_cf Z P (P.1 180 (k_sp U own o)) y y' && P.1 52 (Z.2.2 y') == nI q) = (v_WO (nI o) ((v_W nw S.2).take (wpos nw S.2 v))).any (fun z => z.1 != nI v && y_cf (S.2 4 o) (S.2 83 (wpos nw S.2 v)) (S.2 84 (wpos nw S.2 v)) (S.2 85 (wpos nw S.2 v)) z.2.2.1 z.2.2.2.1 z.2.2.2.2.1 && z.1 == nI u) := by
      refine any_map_eq (h := fun z : v_WT => z.1 != nI v && y_cf (S.2 4 o) (S.2 83 (wpos nw S.2 v)) (if S.2 83 (wpos nw S.2 v) = 4 then S.2 84 (wpos nw S.2 v) else -9) (if S.2 83 (wpos nw S.2 v) = 4 then S.2 85 (wpos nw S.2 v) else -9) z.2.2.1 z.2.2.2.1 z.2.2.2.2.1 && z.1 == nI u) hq3 (fun y' hy => one y' (ownQ y' (List.mem_of_mem_take hy))) (fun z hz => ?_)
      unfold WN
      dsimp only
      rw [cf_norm]
    rw [eH, eQ]
    unfold y_wf
    by_cases ctu : v = u
    · rw [if_neg (fun z => z.2 ctu), Bool.or_eq_false_iff, List.any_eq_false, List.any_eq_false, ← ctu]
      constructor
      · intro z _ h
        simp only [Bool.and_eq_true, bne_iff_ne, beq_iff_eq] at h
        exact h.1.1 h.2
      · intro z _ h
        simp only [Bool.and_eq_true, bne_iff_ne, beq_iff_eq] at h
        exact h.1.1 h.2
    · rw [if_pos ⟨st, ctu⟩, eo, i_cl (by omega)]
      have nuv : ∀ z : Int32, (z == nI u) = true → (z != nI v) = true := fun z hz => by
        rw [beq_iff_eq] at hz
        rw [bne_iff_ne, hz, ne_eq, i_eq (by omega) (by omega)]
        exact fun e => ctu e.symm
      have sw : ∀ (x y z w : Bool), (z = true → x = true) → (w && (x && y && z)) = (w && z && y) := fun x y z w h => by
        cases x <;> cases y <;> cases z <;> cases w <;> simp_all
      congr 1
      · unfold v_LO
        rw [List.any_filter]
        refine Eq.symm (v_anyL (fun i => ?_))
        unfold p_wL
        exact (sw _ _ _ _ (nuv _)).symm
      · unfold v_WO
        rw [List.any_filter]
        refine Eq.symm (v_anyW (fun i => ?_) (Nat.le_of_lt k1))
        unfold p_wW
        exact (sw _ _ _ _ (nuv _)).symm
  · unfold k_wf
    rw [(j6 t h1 h2).1 st]
    show k_b 0 q = _
    rw [k_b0]
    unfold y_wf
    rw [if_neg (fun z => st z.1)]
end SS
