/-! locks and waits of one deal gone -/
section RV
variable {Z Z' : k_Z} {P P' : k_P} {U U' : k_U} {r r' : Nat × Nat} {S S' : m_S} {A : m_A} {N own n b l nl nw nl' nw' nr na ne t i cur c T : Nat} {ch ch' : Nat → List Nat}
theorem er_ix {x : Nat} : ∀ {l : List Nat}, l.Nodup → x ∈ l → l.eraseIdx (k_ix x l) = l.filter (fun y => decide (y ≠ x))
  | [], _, h => by cases h
  | y :: l, nd, h => by
    rw [List.nodup_cons] at nd
    by_cases c : y = x
    · subst c
      have e : l.filter (fun z => decide (z ≠ y)) = l := List.filter_eq_self.mpr (fun z hz => by
        simp only [decide_eq_true_eq]
        exact fun w => nd.1 (w ▸ hz))
      rw [k_ix, if_pos rfl, List.eraseIdx_zero, List.tail_cons, List.filter_cons_of_neg (by simp), e]
    · have hx : x ∈ l := by
        rcases List.mem_cons.mp h with e | e
        · exact absurd e.symm c
        · exact e
      rw [k_ix, if_neg c, List.eraseIdx_cons_succ, er_ix nd.2 hx, List.filter_cons_of_pos (by simp [c])]
theorem nodup_of_map {α β : Type} {f : α → β} {l : List α} (h : (l.map f).Nodup) : l.Nodup := by
  unfold List.Nodup at h ⊢
  rw [List.pairwise_map] at h
  exact h.imp (fun {a b} hn e => hn (by rw [e]))
theorem ql_nd (hI : I_lk n b nl nw cur ch S) (hK : K_lk own n b nl nw cur Z P U S) {o : Nat} (ho : o < n) : (k_ql U own o).Nodup := by
  have e := (hK.2.1 o ho).2.1
  have nd : ((v_WO (nI o) (v_W nw S.2)).map (fun x => x.1)).Nodup := hI.2.2.2.2.2.2.1.sublist (List.filter_sublist.map _)
  refine nodup_of_map (f := fun y => (WV Z P y).1) ?_
  have e2 := congrArg (List.map (fun x : v_WT => x.1)) e
  rw [List.map_map, List.map_map] at e2
  have e3 : (k_ql U own o).map (fun y => (WV Z P y).1) = (v_WO (nI o) (v_W nw S.2)).map (fun x => x.1) := e2
  rw [e3]
  exact nd
theorem hl_len (hK : K_lk own n b nl nw cur Z P U S) {o : Nat} (ho : o < n) : (k_hl U own o).length = (v_LO (nI o) (v_L nl S.2)).length := by
  have e := congrArg List.length (hK.2.1 o ho).1
  rw [List.length_map, List.length_map] at e
  exact e
theorem ql_len (hK : K_lk own n b nl nw cur Z P U S) {o : Nat} (ho : o < n) : (k_ql U own o).length ≤ nw := by
  have e := congrArg List.length (hK.2.1 o ho).2.1
  rw [List.length_map, List.length_map] at e
  rw [e]
  have := List.length_filter_le (fun x : v_WT => x.2.1 == nI o) (v_W nw S.2)
  rw [v_Wl] at this
  exact this
/-- the class's locks are good ones -/
theorem lw_of (hI : I_lk n b nl nw cur ch S) (hK : K_lk own n b nl nw cur Z P U S) {o : Nat} (ho : o < n) : (∀ y ∈ k_hl U own o, k_lw P y) ∧ ∀ y ∈ k_ql U own o, k_lw P y := by
  refine ⟨fun y hy h4 => ?_, fun y hy h4 => ?_⟩
  · have : LV Z P (if cur = 0 then own else dl U own cur) y ∈ (v_LO (nI o) (v_L nl S.2)).map LN := by rw [← (hK.2.1 o ho).1]; exact List.mem_map.mpr ⟨y, hy, rfl⟩
    obtain ⟨x, hx, e⟩ := List.mem_map.mp this
    obtain ⟨u, o', v, a1, a2, a3, a4, a5, a6, a7, a8, _⟩ := hI.2.2.2.2.1 x (List.mem_filter.mp hx).1
    have e1 : P.1 62 y = x.2.2.1 := (congrArg (fun z : v_LT => z.2.2.1) e).symm
    have e2 : P.1 63 y = (if x.2.2.1 = 4 then x.2.2.2.1 else -9) := (congrArg (fun z : v_LT => z.2.2.2.1) e).symm
    rw [e1] at h4
    rw [if_pos h4] at e2
    obtain ⟨k, k1, k2⟩ := a8 h4
    exact ⟨k, k1, e2.trans k2⟩
  · have : WV Z P y ∈ (v_WO (nI o) (v_W nw S.2)).map WN := by rw [← (hK.2.1 o ho).2.1]; exact List.mem_map.mpr ⟨y, hy, rfl⟩
    obtain ⟨x, hx, e⟩ := List.mem_map.mp this
    obtain ⟨u, o', a1, a2, a3, a4, a5, a6, a7, a8, _⟩ := hI.2.2.2.2.2.1 x (List.mem_filter.mp hx).1
    have e1 : P.1 62 y = x.2.2.1 := (congrArg (fun z : v_WT => z.2.2.1) e).symm
    have e2 : P.1 63 y = (if x.2.2.1 = 4 then x.2.2.2.1 else -9) := (congrArg (fun z : v_WT => z.2.2.2.1) e).symm
    rw [e1] at h4
    rw [if_pos h4] at e2
    obtain ⟨k, k1, k2⟩ := a8 h4
    exact ⟨k, k1, e2.trans k2⟩
theorem hl_place (hK : K_lk own n b nl nw cur Z P U S) {o y : Nat} (ho : o < n) (hy : y ∈ k_hl U own o) : P.1 61 y = nI o := by
  have : LV Z P (if cur = 0 then own else dl U own cur) y ∈ (v_LO (nI o) (v_L nl S.2)).map LN := by rw [← (hK.2.1 o ho).1]; exact List.mem_map.mpr ⟨y, hy, rfl⟩
  obtain ⟨x, hx, e⟩ := List.mem_map.mp this
  have h2 := (List.mem_filter.mp hx).2
  simp only [beq_iff_eq] at h2
  exact (congrArg (fun z : v_LT => z.2.1) e).symm.trans h2
theorem ql_place (hK : K_lk own n b nl nw cur Z P U S) {o y : Nat} (ho : o < n) (hy : y ∈ k_ql U own o) : P.1 61 y = nI o := by
  have : WV Z P y ∈ (v_WO (nI o) (v_W nw S.2)).map WN := by rw [← (hK.2.1 o ho).2.1]; exact List.mem_map.mpr ⟨y, hy, rfl⟩
  obtain ⟨x, hx, e⟩ := List.mem_map.mp this
  have h2 := (List.mem_filter.mp hx).2
  simp only [beq_iff_eq] at h2
  exact (congrArg (fun z : v_WT => z.2.1) e).symm.trans h2
theorem filt_cm {α : Type} {p q : α → Bool} {l : List α} : (l.filter p).filter q = (l.filter q).filter p := by
  rw [List.filter_filter, List.filter_filter]
  congr 1
  funext x
  rw [Bool.and_comm]
/-- one deal's locks and wait are gone -/
theorem K_lk.drop (hn : n ≤ 40) (hb : b ≤ 400) (hK : K_lk own n b nl nw 0 Z P U S) (hI : I_lk n b nl nw 0 ch S) (hl : (U.2.1 (own + 14)).length = b) (nd : (U.2.1 (own + 14)).Nodup) (hnum : ∀ u, 1 ≤ u → u ≤ b → P.1 40 (dl U own u) = nI u) (h1 : 1 ≤ t) (h2 : t ≤ b) (e14 : U'.2.1 (own + 14) = U.2.1 (own + 14)) (e22 : ∀ o, o < n → k_sp U' own o = k_sp U own o) (esp : k_Sp U' own n)
    (eh : ∀ o, o < n → k_hl U' own o = (k_hl U own o).filter (fun y => decide (¬ Z.2.2 y = dl U own t))) (eq : ∀ o, o < n → k_ql U' own o = (k_ql U own o).filter (fun y => decide (¬ Z.2.2 y = dl U own t)))
    (eZ : ∀ o y, o < n → y ∈ k_hl U own o ∨ y ∈ k_ql U own o → Z'.2.2 y = Z.2.2 y) (eP : ∀ f ∈ [61, 62, 63, 64, 66, 65, 67], ∀ o y, o < n → y ∈ k_hl U own o ∨ y ∈ k_ql U own o → P'.1 f y = P.1 f y) (eD : ∀ f ∈ [40, 47, 43], ∀ u, 1 ≤ u → u ≤ b → u ≠ t → P'.1 f (dl U own u) = P.1 f (dl U own u)) (eS : ∀ o, o < n → P'.1 180 (k_sp U own o) = P.1 180 (k_sp U own o))
    (eU : ∀ u, 1 ≤ u → u ≤ b → U'.1 (dl U own u) = if u = t then none else U.1 (dl U own u)) (l3 : v_L nl' S'.2 = (v_L nl S.2).filter (fun x => x.1 != nI t)) (w3 : v_W nw' S'.2 = (v_W nw S.2).filter (fun x => x.1 != nI t)) (est : ∀ u, u ≠ t → S'.2 47 u = S.2 47 u) (st4 : ¬ S'.2 47 t = 2 ∧ ¬ undw S'.2 t) (elv : ∀ u, u ≠ t → S'.2 51 u = S.2 51 u) (eas : S'.2 55 = S.2 55) (eso : S'.2 4 = S.2 4) : K_lk own n b nl' nw' 0 Z' P' U' S' := by
  obtain ⟨k1, k2, k3, k4, k5, k6⟩ := hK
  have dlu : ∀ u, dl U' own u = dl U own u := fun u => by unfold dl; rw [e14]
  have ne9 : ∀ u, u ≤ b → (nI u = nI t) = (u = t) := fun u hu => i_eq (by omega) (by omega)
  have ownH : ∀ o y, o < n → y ∈ k_hl U own o → ∃ u, 1 ≤ u ∧ u ≤ b ∧ Z.2.2 y = dl U own u := fun o y ho hy => by
    obtain ⟨u, q, a1, a2, a3, a4, _⟩ := k3 o ho y hy
    exact ⟨u, a1, a2, a4⟩
  have ownQ : ∀ o y, o < n → y ∈ k_ql U own o → ∃ u, 1 ≤ u ∧ u ≤ b ∧ Z.2.2 y = dl U own u := fun o y ho hy => by
    obtain ⟨u, a1, a2, a3, a4, _⟩ := k4 o ho y hy
    exact ⟨u, a1, a2, a4⟩
  have neq : ∀ u, 1 ≤ u → u ≤ b → (dl U own u = dl U own t) = (u = t) := fun u u1 u2 => propext ⟨fun e => dl_inj hl nd u1 u2 h1 h2 e, fun e => by rw [e]⟩
  refine ⟨esp, fun o ho => ⟨?_, ?_, ?_⟩, fun o ho y hy => ?_, fun o ho y hy => ?_, fun o ho => ?_, fun u u1 u2 => ⟨fun z => ?_, fun y hy => ?_⟩⟩
  · rw [eh o ho]
    have e1 : ((k_hl U own o).filter (fun y => decide (¬ Z.2.2 y = dl U own t))).map (LV Z' P' own) = ((k_hl U own o).filter (fun y => decide (¬ Z.2.2 y = dl U own t))).map (LV Z P own) := List.map_congr_left (fun y hy => by
      obtain ⟨y1, y2⟩ := List.mem_filter.mp hy
      simp only [decide_eq_true_eq] at y2
      obtain ⟨u, u1, u2, u3⟩ := ownH o y ho y1
      have un : u ≠ t := fun e => y2 (by rw [u3, e])
      unfold LV
      rw [eZ o y ho (Or.inl y1), eP _ (by decide) o y ho (Or.inl y1), eP _ (by decide) o y ho (Or.inl y1), eP _ (by decide) o y ho (Or.inl y1), eP _ (by decide) o y ho (Or.inl y1), eP _ (by decide) o y ho (Or.inl y1), eP _ (by decide) o y ho (Or.inl y1), u3, eD _ (by decide) u u1 u2 un, eD _ (by decide) u u1 u2 un, eD _ (by decide) u u1 u2 un])
    rw [if_pos rfl, e1]
    have e2 : (k_hl U own o).filter (fun y => decide (¬ Z.2.2 y = dl U own t)) = (k_hl U own o).filter ((fun x : v_LT => x.1 != nI t) ∘ LV Z P own) := List.filter_congr (fun y hy => by
      obtain ⟨u, u1, u2, u3⟩ := ownH o y ho hy
      show decide (¬ Z.2.2 y = dl U own t) = (P.1 40 (Z.2.2 y) != nI t)
      rw [u3, hnum u u1 u2, Bool.eq_iff_iff, decide_eq_true_eq, bne_iff_ne, ne_eq, ne9 u u2, neq u u1 u2])
    have e3 := (k2 o ho).1
    rw [if_pos rfl] at e3
    rw [e2, ← List.filter_map, e3, List.filter_map, l3]
    congr 1
    unfold v_LO
    rw [filt_cm]
    rfl
  · rw [eq o ho]
    have e1 : ((k_ql U own o).filter (fun y => decide (¬ Z.2.2 y = dl U own t))).map (WV Z' P') = ((k_ql U own o).filter (fun y => decide (¬ Z.2.2 y = dl U own t))).map (WV Z P) := List.map_congr_left (fun y hy => by
      obtain ⟨y1, y2⟩ := List.mem_filter.mp hy
      simp only [decide_eq_true_eq] at y2
      obtain ⟨u, u1, u2, u3⟩ := ownQ o y ho y1
      have un : u ≠ t := fun e => y2 (by rw [u3, e])
      unfold WV
      rw [eZ o y ho (Or.inr y1), eP _ (by decide) o y ho (Or.inr y1), eP _ (by decide) o y ho (Or.inr y1), eP _ (by decide) o y ho (Or.inr y1), eP _ (by decide) o y ho (Or.inr y1), eP _ (by decide) o y ho (Or.inr y1), u3, eD _ (by decide) u u1 u2 un])
    rw [e1]
    have e2 : (k_ql U own o).filter (fun y => decide (¬ Z.2.2 y = dl U own t)) = (k_ql U own o).filter ((fun x : v_WT => x.1 != nI t) ∘ WV Z P) := List.filter_congr (fun y hy => by
      obtain ⟨u, u1, u2, u3⟩ := ownQ o y ho hy
      show decide (¬ Z.2.2 y = dl U own t) = (P.1 40 (Z.2.2 y) != nI t)
      rw [u3, hnum u u1 u2, Bool.eq_iff_iff, decide_eq_true_eq, bne_iff_ne, ne_eq, ne9 u u2, neq u u1 u2])
    rw [e2, ← List.filter_map, (k2 o ho).2.1, List.filter_map, w3]
    congr 1
    unfold v_WO
    rw [filt_cm]
    rfl
  · rw [e22 o ho, eS o ho, eso]; exact (k2 o ho).2.2
  · rw [eh o ho] at hy
    obtain ⟨y1, y2⟩ := List.mem_filter.mp hy
    simp only [decide_eq_true_eq] at y2
    obtain ⟨u, q, a1, a2, a3, a4, a5, a6⟩ := k3 o ho y y1
    have un : u ≠ t := fun e => y2 (by rw [a4, e])
    refine ⟨u, q, a1, a2, ?_, by rw [eZ o y ho (Or.inl y1), dlu]; exact a4, by rw [eP _ (by decide) o y ho (Or.inl y1)]; exact a5, by rw [eas]; exact a6⟩
    unfold undw at a3 ⊢; rw [est u un]; exact a3
  · rw [eq o ho] at hy
    obtain ⟨y1, y2⟩ := List.mem_filter.mp hy
    simp only [decide_eq_true_eq] at y2
    obtain ⟨u, a1, a2, a3, a4, a5, a6, a7⟩ := k4 o ho y y1
    have un : u ≠ t := fun e => y2 (by rw [a4, e])
    exact ⟨u, a1, a2, by rw [est u un]; exact a3, by rw [eZ o y ho (Or.inr y1), dlu]; exact a4, by rw [dlu, eU u a1 a2, if_neg un]; exact a5, by rw [eP _ (by decide) o y ho (Or.inr y1), elv u un]; exact a6, by rw [eP _ (by decide) o y ho (Or.inr y1), eas]; exact a7⟩
  · rw [eh o ho]; exact (k5 o ho).filter _
  · rw [dlu, eU u u1 u2]
    by_cases c : u = t
    · rw [if_pos c]
    · rw [if_neg c]
      rw [est u c] at z
      exact (k6 u u1 u2).1 z
  · rw [dlu, eU u u1 u2] at hy
    by_cases c : u = t
    · rw [if_pos c] at hy; cases hy
    · rw [if_neg c] at hy
      obtain ⟨o, o1, o2, o3, o4⟩ := (k6 u u1 u2).2 y hy
      refine ⟨o, o1, ?_, by rw [eZ o y o1 (Or.inr o2), dlu]; exact o3, by rw [eP _ (by decide) o y o1 (Or.inr o2)]; exact o4⟩
      rw [eq o o1]
      exact List.mem_filter.mpr ⟨o2, by simp only [decide_eq_true_eq]; rw [o3, neq u u1 u2]; exact c⟩
end RV
