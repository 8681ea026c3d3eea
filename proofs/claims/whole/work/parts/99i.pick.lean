/-! which wait is granted: the class beside the reference -/
section SK
variable {Z : k_Z} {P : k_P} {U : k_U} {r : Nat × Nat} {S : m_S} {A : m_A} {N own n b l nl nw nr na ne t o i cur c T : Nat} {ch : Nat → List Nat}
def wo (A : m_A) (k : Nat) : Nat := (A 82 k).toNatClampNeg
theorem gt_inv (ho : ∀ k, k < nw → ∃ o, o < 40 ∧ A 82 k = nI o) : ∀ (m k : Nat) (f : Option Nat), k + m = nw →
    (f = none → ∀ j, j < k → ¬ y_can A nl j = true) → (∀ j0, f = some j0 → j0 < k ∧ y_can A nl j0 = true ∧ (∀ j, j < k → y_can A nl j = true → wo A j0 ≤ wo A j) ∧ ∀ j, j < j0 → y_can A nl j = true → wo A j0 < wo A j) →
    (y_gt A nl k m f = none → ∀ j, j < nw → ¬ y_can A nl j = true) ∧ ∀ j0, y_gt A nl k m f = some j0 → j0 < nw ∧ y_can A nl j0 = true ∧ (∀ j, j < nw → y_can A nl j = true → wo A j0 ≤ wo A j) ∧ ∀ j, j < j0 → y_can A nl j = true → wo A j0 < wo A j
  | 0, k, f, hk, h1, h2 => by
    rw [show k = nw by omega] at h1 h2
    exact ⟨h1, h2⟩
  | m + 1, k, f, hk, h1, h2 => by
    rw [y_gt]
    refine gt_inv ho m (k + 1) _ (by omega) (fun e j hj => ?_) (fun j0 e => ?_)
    · by_cases c : y_can A nl k = true ∧ y_gtB A k f = true
      · rw [if_pos c] at e; cases e
      · rw [if_neg c] at e
        by_cases cj : j < k
        · exact h1 e j cj
        · rw [show j = k by omega]
          intro z
          exact c ⟨z, by rw [e]; rfl⟩
    · by_cases c : y_can A nl k = true ∧ y_gtB A k f = true
      · rw [if_pos c] at e
        cases e
        have key : ∀ j, j < k → y_can A nl j = true → wo A k < wo A j := fun j hj hc => by
          cases hf : f with
          | none => exact absurd hc (h1 hf j hj)
          | some j1 =>
            obtain ⟨g1, g2, g3, g4⟩ := h2 j1 hf
            have c2 := c.2
            rw [hf] at c2
            have c2 : decide (A 82 k < A 82 j1) = true := c2
            rw [decide_eq_true_eq] at c2
            obtain ⟨o1, q1, q2⟩ := ho k (by omega)
            obtain ⟨o2, q3, q4⟩ := ho j1 (by omega)
            rw [q2, q4, i_lt (by omega) (by omega)] at c2
            have e1 : wo A k = o1 := by unfold wo; rw [q2, i_cl (by omega)]
            have e2 : wo A j1 = o2 := by unfold wo; rw [q4, i_cl (by omega)]
            have := g3 j hj hc
            omega
        refine ⟨by omega, c.1, fun j hj hc => ?_, key⟩
        by_cases cj : j < k
        · exact Nat.le_of_lt (key j cj hc)
        · rw [show j = k by omega]; exact Nat.le_refl _
      · rw [if_neg c] at e
        obtain ⟨g1, g2, g3, g4⟩ := h2 j0 e
        refine ⟨by omega, g2, fun j hj hc => ?_, g4⟩
        by_cases cj : j < k
        · exact g3 j cj hc
        · have ej : j = k := by omega
          subst ej
          have c2 : ¬ y_gtB A j f = true := fun z => c ⟨hc, z⟩
          rw [e] at c2
          have c2 : ¬ decide (A 82 j < A 82 j0) = true := c2
          rw [decide_eq_true_eq] at c2
          obtain ⟨o1, q1, q2⟩ := ho j (by omega)
          obtain ⟨o2, q3, q4⟩ := ho j0 (by omega)
          rw [q2, q4, i_lt (by omega) (by omega)] at c2
          have e1 : wo A j = o1 := by unfold wo; rw [q2, i_cl (by omega)]
          have e2 : wo A j0 = o2 := by unfold wo; rw [q4, i_cl (by omega)]
          omega
theorem filt_pos {α : Type} {p : α → Bool} : ∀ (L : List α) (i : Nat), i < (L.filter p).length → ∃ k x, L[k]? = some x ∧ p x = true ∧ (L.filter p).take i = (L.take k).filter p ∧ (L.filter p)[i]? = some x
  | [], i, h => by cases h
  | y :: L, i, h => by
    by_cases c : p y = true
    · rw [List.filter_cons_of_pos c] at h ⊢
      cases i with
      | zero => exact ⟨0, y, rfl, c, rfl, rfl⟩
      | succ i =>
        simp only [List.length_cons] at h
        obtain ⟨k, x, h1, h2, h3, h4⟩ := filt_pos (p := p) L i (by omega)
        refine ⟨k + 1, x, by rw [List.getElem?_cons_succ]; exact h1, h2, ?_, by rw [List.getElem?_cons_succ]; exact h4⟩
        rw [List.take_succ_cons, List.take_succ_cons, List.filter_cons_of_pos c, h3]
    · rw [List.filter_cons_of_neg c] at h ⊢
      obtain ⟨k, x, h1, h2, h3, h4⟩ := filt_pos L i h
      refine ⟨k + 1, x, by rw [List.getElem?_cons_succ]; exact h1, h2, ?_, h4⟩
      rw [List.take_succ_cons, List.filter_cons_of_neg c, h3]
theorem pos_filt {α : Type} {p : α → Bool} {L : List α} {k : Nat} {x : α} (h : L[k]? = some x) (hp : p x = true) : ((L.take k).filter p).length < (L.filter p).length ∧ (L.filter p).take ((L.take k).filter p).length = (L.take k).filter p ∧ (L.filter p)[((L.take k).filter p).length]? = some x := by
  have e : L = L.take k ++ x :: L.drop (k + 1) := by
    obtain ⟨hk, hx⟩ := List.getElem?_eq_some_iff.mp h
    rw [← hx, ← List.drop_eq_getElem_cons hk, List.take_append_drop]
  have e2 : L.filter p = (L.take k).filter p ++ x :: (L.drop (k + 1)).filter p := by
    conv => lhs; rw [e]
    rw [List.filter_append, List.filter_cons_of_pos hp]
  rw [e2]
  refine ⟨by rw [List.length_append, List.length_cons]; omega, List.take_left, ?_⟩
  rw [List.getElem?_append_right (Nat.le_refl _), Nat.sub_self]
  rfl
theorem pos_lt {α : Type} {p : α → Bool} {L : List α} {k k' : Nat} {x : α} (h : L[k]? = some x) (hp : p x = true) (hk : k < k') : ((L.take k).filter p).length < ((L.take k').filter p).length := by
  have h' : (L.take k')[k]? = some x := by rw [List.getElem?_take, if_pos hk]; exact h
  have := (pos_filt h' hp).1
  rw [List.take_take, Nat.min_eq_left (by omega)] at this
  exact this
/-- the wait at place k: who it is in the class, and whether it can be granted -/
theorem can_ok (hI : I_all n b l nl nw nr na ne ch cur c T S) (hK : K_all N own n b l nl nw nr ne ch cur Z P U r S) {k : Nat} (hk : k < nw) (ho : o < n) (eo : S.2 82 k = nI o) :
    ∃ y, (k_ql U own o)[(v_WO (nI o) ((v_W nw S.2).take k)).length]? = some y ∧ WV Z P y = WN (v_w S.2 k) ∧ (k_bo Z P U own o (v_WO (nI o) ((v_W nw S.2).take k)).length = 0 ↔ y_can S.2 nl k = true) ∧ (v_WO (nI o) ((v_W nw S.2).take k)).length < (k_ql U own o).length := by
  obtain ⟨hL, hD, hE, hLk, hV, hM, hP, hX⟩ := hI
  obtain ⟨E, kLg, hs1, hs5, kDe, kEn, kAs, kLk, kVe, kMi⟩ := hK
  obtain ⟨d1, d2, d3, d4, d5, d6, d7, d8, d9, d10, d11⟩ := hD
  obtain ⟨e1, e2, e3, e4, e5, e6, e7⟩ := kDe
  obtain ⟨j1, j2, j3, j4, j5, j6⟩ := kLk
  have n40 : n ≤ 40 := hL.2.2.1.1
  have hx : (v_W nw S.2)[k]? = some (v_w S.2 k) := by rw [v_Wg, if_pos hk]
  obtain ⟨f1, f2, f3⟩ := pos_filt (p := fun x : v_WT => x.2.1 == nI o) hx (by simp only [v_w, beq_iff_eq]; exact eo)
  have hm := (j2 o ho).1
  have hq := (j2 o ho).2.1
  have len : (k_ql U own o).length = (v_WO (nI o) (v_W nw S.2)).length := by
    have := congrArg List.length hq
    rw [List.length_map, List.length_map] at this
    exact this
  have f1 : (v_WO (nI o) ((v_W nw S.2).take k)).length < (v_WO (nI o) (v_W nw S.2)).length := f1
  have f2 : (v_WO (nI o) (v_W nw S.2)).take (v_WO (nI o) ((v_W nw S.2).take k)).length = v_WO (nI o) ((v_W nw S.2).take k) := f2
  have f3 : (v_WO (nI o) (v_W nw S.2))[(v_WO (nI o) ((v_W nw S.2).take k)).length]? = some (v_w S.2 k) := f3
  generalize (v_WO (nI o) ((v_W nw S.2).take k)).length = i at *
  have hil : i < (k_ql U own o).length := by rw [len]; exact f1
  have hy : (k_ql U own o)[i]? = some (k_ql U own o)[i] := List.getElem?_eq_getElem hil
  generalize (k_ql U own o)[i] = y at hy
  have ym : y ∈ k_ql U own o := List.mem_of_getElem? hy
  have hwv : WV Z P y = WN (v_w S.2 k) := by
    have a : ((k_ql U own o).map (WV Z P))[i]? = some (WV Z P y) := by rw [List.getElem?_map, hy]; rfl
    rw [hq, List.getElem?_map, f3] at a
    exact (Option.some.inj a).symm
  refine ⟨y, hy, hwv, ?_, hil⟩
  obtain ⟨t, b1, b2, b3, b4, b5, b6, b7⟩ := j4 o ho y ym
  have enum : S.2 81 k = nI t := by
    have := congrArg (fun z : v_WT => z.1) hwv
    have : P.1 40 (Z.2.2 y) = S.2 81 k := this
    rw [← this, b4]
    exact (e3 t b1 b2).1
  have hxr : xl_R Z P y (dl U own t) (S.2 82 k, S.2 83 k, S.2 84 k, S.2 85 k) := ⟨b4, congrArg (fun z : v_WT => z.2.2.1) hwv, congrArg (fun z : v_WT => z.2.2.2.1) hwv, congrArg (fun z : v_WT => z.2.2.2.2.1) hwv⟩
  have hdn : ∀ u, 1 ≤ u → u ≤ b → (dl U own u = dl U own t) = (P.1 40 (dl U own u) = nI t) := fun u u1 u2 => by
    rw [(e3 u u1 u2).1, i_eq (by omega) (by omega)]
    exact propext ⟨fun e => dl_inj e1 e2 u1 u2 b1 b2 e, fun e => by rw [e]⟩
  have hdH : ∀ y ∈ k_hl U own o, (Z.2.2 y = dl U own t) = (P.1 40 (Z.2.2 y) = nI t) := fun y hy => by
    obtain ⟨u, x, a1, a2, a3, a4, a5, a6⟩ := j3 o ho y hy
    rw [a4]; exact hdn u a1 a2
  have hdQ : ∀ y ∈ k_ql U own o, (Z.2.2 y = dl U own t) = (P.1 40 (Z.2.2 y) = nI t) := fun y hy => by
    obtain ⟨u, a1, a2, a3, a4, a5, a6, a7⟩ := j4 o ho y hy
    rw [a4]; exact hdn u a1 a2
  have seat : ∀ u, 1 ≤ u → u ≤ b → undw S.2 u → ∃ i, i < 32 ∧ P.1 52 (dl U own u) = nI i := fun u u1 u2 hu => by
    obtain ⟨i, hi, ei⟩ := List.getElem_of_mem ((d9 u).mpr ⟨u1, u2, hu⟩)
    have hi' := hi
    rw [v_lvl] at hi'
    exact ⟨i, by omega, e7 i u (by rw [List.getElem?_eq_getElem hi, ei])⟩
  have stH : ∀ y ∈ k_hl U own o, ∃ i, i < 32 ∧ P.1 52 (Z.2.2 y) = nI i := fun y hy => by
    obtain ⟨u, x, a1, a2, a3, a4, a5, a6⟩ := j3 o ho y hy
    rw [a4]; exact seat u a1 a2 a3
  have stQ : ∀ y ∈ k_ql U own o, ∃ i, i < 32 ∧ P.1 52 (Z.2.2 y) = nI i := fun y hy => by
    obtain ⟨u, a1, a2, a3, a4, a5, a6, a7⟩ := j4 o ho y hy
    rw [a4]; exact seat u a1 a2 (Or.inr a3)
  have gd : (k_ql U own o).getD i 0 = y := by rw [List.getD_eq_getElem?_getD, hy]; rfl
  have hq3 : ((k_ql U own o).take i).map (WV Z P) = (v_WO (nI o) ((v_W nw S.2).take k)).map WN := by
    rw [List.map_take, hq, ← List.map_take, f2]
  unfold k_bo k_bq y_can
  rw [gd, blk_ok (m := 0) _ _ (fun y hy => stQ y (List.mem_of_mem_take hy)), blk_ok (m := 0) _ _ stH, cfl_ok hm hxr hdH, cfq_ok hq3 hxr (fun y hy => hdQ y (List.mem_of_mem_take hy)), (j2 o ho).2.2]
  have eow : (S.2 82 k).toNatClampNeg = o := by rw [eo, i_cl (by omega)]
  rw [eow, v_agH, v_agQ (Nat.le_of_lt hk), enum, Bool.and_eq_true, Bool.not_eq_true', Bool.not_eq_true']
  exact ⟨fun z => ⟨z.1.2, z.2⟩, fun z => ⟨⟨rfl, z.1⟩, z.2⟩⟩
/-- none can be granted, in both -/
theorem pick_none (hI : I_all n b l nl nw nr na ne ch cur c T S) (hK : K_all N own n b l nl nw nr ne ch cur Z P U r S) (h : ∀ o i, o < n → i < (k_ql U own o).length → ¬ k_bo Z P U own o i = 0) : y_gt S.2 nl 0 nw none = none := by
  have n40 : n ≤ 40 := hI.1.2.2.1.1
  have hw : ∀ k, k < nw → ∃ o, o < n ∧ S.2 82 k = nI o := fun k hk => by
    have hm : v_w S.2 k ∈ v_W nw S.2 := List.mem_of_getElem? (by rw [v_Wg, if_pos hk])
    obtain ⟨u, o, a1, a2, a3, a4, a5, a6, _⟩ := hI.2.2.2.1.2.2.2.2.2.1 _ hm
    exact ⟨o, a6, a5⟩
  obtain ⟨q1, q2⟩ := gt_inv (nl := nl) (fun k hk => by obtain ⟨o, x1, x2⟩ := hw k hk; exact ⟨o, by omega, x2⟩) nw 0 none (by omega) (fun _ j hj => by omega) (fun j0 e => by cases e)
  cases e : y_gt S.2 nl 0 nw none with
  | none => rfl
  | some k =>
    obtain ⟨g1, g2, _⟩ := q2 k e
    obtain ⟨o, x1, x2⟩ := hw k g1
    obtain ⟨y, y1, y2, y3, y4⟩ := can_ok hI hK g1 x1 x2
    exact absurd (y3.mpr g2) (h o _ x1 y4)
/-- the same is granted in both -/
theorem pick_some (hI : I_all n b l nl nw nr na ne ch cur c T S) (hK : K_all N own n b l nl nw nr ne ch cur Z P U r S) {x : Nat} (ho : o < n) (hx : (k_ql U own o)[i]? = some x) (h0 : k_bo Z P U own o i = 0) (h1 : ∀ j, j < i → ¬ k_bo Z P U own o j = 0) (h2 : ∀ o' j, o' < o → j < (k_ql U own o').length → ¬ k_bo Z P U own o' j = 0) :
    ∃ k, y_gt S.2 nl 0 nw none = some k ∧ k < nw ∧ S.2 82 k = nI o ∧ WV Z P x = WN (v_w S.2 k) ∧ i = (v_WO (nI o) ((v_W nw S.2).take k)).length ∧ y_can S.2 nl k = true := by
  have n40 : n ≤ 40 := hI.1.2.2.1.1
  have hw : ∀ k, k < nw → ∃ o, o < n ∧ S.2 82 k = nI o := fun k hk => by
    have hm : v_w S.2 k ∈ v_W nw S.2 := List.mem_of_getElem? (by rw [v_Wg, if_pos hk])
    obtain ⟨u, o, a1, a2, a3, a4, a5, a6, _⟩ := hI.2.2.2.1.2.2.2.2.2.1 _ hm
    exact ⟨o, a6, a5⟩
  obtain ⟨q1, q2⟩ := gt_inv (nl := nl) (fun k hk => by obtain ⟨o, x1, x2⟩ := hw k hk; exact ⟨o, by omega, x2⟩) nw 0 none (by omega) (fun _ j hj => by omega) (fun j0 e => by cases e)
  -- the place of the class's choice
  have hil : i < (k_ql U own o).length := (List.getElem?_eq_some_iff.mp hx).1
  have len : (k_ql U own o).length = (v_WO (nI o) (v_W nw S.2)).length := by
    have := congrArg List.length (hK.2.2.2.2.2.2.2.1.2.1 o ho).2.1
    rw [List.length_map, List.length_map] at this
    exact this
  rw [len] at hil
  obtain ⟨k, z, z1, z2, z3, z4⟩ := filt_pos (p := fun x : v_WT => x.2.1 == nI o) (v_W nw S.2) i hil
  have hk : k < nw := by have := (List.getElem?_eq_some_iff.mp z1).1; rw [v_Wl] at this; exact this
  rw [v_Wg, if_pos hk] at z1
  cases z1
  have eok : S.2 82 k = nI o := by simpa only [v_w, beq_iff_eq] using z2
  have ei : i = (v_WO (nI o) ((v_W nw S.2).take k)).length := by
    have z3 : (v_WO (nI o) (v_W nw S.2)).take i = v_WO (nI o) ((v_W nw S.2).take k) := z3
    rw [← z3, List.length_take]
    omega
  obtain ⟨y, y1, y2, y3, y4⟩ := can_ok hI hK hk ho eok
  rw [← ei] at y1 y3
  rw [hx] at y1
  cases y1
  have ck := y3.mp h0
  have wk : wo S.2 k = o := by unfold wo; rw [eok, i_cl (by omega)]
  cases e : y_gt S.2 nl 0 nw none with
  | none => exact absurd ck (q1 e k hk)
  | some k' =>
    obtain ⟨g1, g2, g3, g4⟩ := q2 k' e
    obtain ⟨o', x1, x2⟩ := hw k' g1
    have wk' : wo S.2 k' = o' := by unfold wo; rw [x2, i_cl (by omega)]
    obtain ⟨y', y1', y2', y3', y4'⟩ := can_ok hI hK g1 x1 x2
    have le := g3 k hk ck
    rw [wk, wk'] at le
    have oo : o' = o := by
      by_cases c : o' < o
      · exact absurd (y3'.mpr g2) (h2 o' _ c y4')
      · omega
    subst oo
    have kk : k' = k := by
      have hz : ∀ j, j < nw → S.2 82 j = nI o' → (v_W nw S.2)[j]? = some (v_w S.2 j) ∧ (fun x : v_WT => x.2.1 == nI o') (v_w S.2 j) = true := fun j hj ej => ⟨by rw [v_Wg, if_pos hj], by simp only [v_w, beq_iff_eq]; exact ej⟩
      by_cases c1 : k' < k
      · have lt : (v_WO (nI o') ((v_W nw S.2).take k')).length < (v_WO (nI o') ((v_W nw S.2).take k)).length := pos_lt (hz k' g1 x2).1 (hz k' g1 x2).2 c1
        exact absurd (y3'.mpr g2) (h1 _ (by rw [ei]; exact lt))
      · by_cases c2 : k < k'
        · have := g4 k c2 ck
          rw [wk, wk'] at this
          omega
        · omega
    subst kk
    exact ⟨k', rfl, hk, eok, y2, ei, ck⟩
end SK
