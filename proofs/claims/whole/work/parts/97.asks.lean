/-! asking for a lock: lists, both ways -/
section RZ
variable {Z : k_Z} {P : k_P} {U : k_U} {S : m_S} {A : m_A} {own n b nl nw cur t o x : Nat} {ch : Nat → List Nat} {w k a s : Int32}
theorem cf_norm {w2 k2 a2 : Int32} : y_cf s w (if w = 4 then k else -9) (if w = 4 then a else -9) w2 (if w2 = 4 then k2 else -9) (if w2 = 4 then a2 else -9) = y_cf s w k a w2 k2 a2 := by
  have ag : ∀ (w k w2 : Int32), y_ag w (if w = 4 then k else -9) w2 = y_ag w k w2 := fun w k w2 => by
    unfold y_ag
    by_cases c : w = 4
    · rw [if_pos c]
    · have : (w == 4) = false := beq_false_of_ne c
      rw [this, Bool.false_and, Bool.false_and]
  unfold y_cf
  rw [ag, ag]
  by_cases c : w = 4
  · by_cases c2 : w2 = 4
    · rw [if_pos c, if_pos c, if_pos c2, if_pos c2]
    · have : (w2 == 4) = false := beq_false_of_ne c2
      rw [this, Bool.and_false, Bool.false_and, Bool.false_and]
  · have : (w == 4) = false := beq_false_of_ne c
    rw [this, Bool.false_and, Bool.false_and, Bool.false_and]
theorem com_sym {k2 a2 : Int32} : y_com s k a k2 a2 = y_com s k2 a2 k a := by
  unfold y_com
  by_cases c1 : 20 ≤ k
  · rw [if_pos c1]
    by_cases c2 : 20 ≤ k2
    · rw [if_pos c2]
    · rw [if_neg c2, if_pos c1]
  · rw [if_neg c1]
    by_cases c2 : 20 ≤ k2
    · rw [if_pos c2, if_pos c2]
    · rw [if_neg c2, if_neg c2, if_neg c1]
      have e1 : (y_rd k a = true ∧ y_rd k2 a2 = true) = (y_rd k2 a2 = true ∧ y_rd k a = true) := propext and_comm
      have e2 : (a != a2) = (a2 != a) := by rw [Bool.eq_iff_iff, bne_iff_ne, bne_iff_ne]; exact ne_comm
      simp only [e1, e2, Bool.and_comm (k == 1), Bool.and_comm (k == 15), Bool.and_comm (y_isIn k 4 6), Bool.and_comm (y_isIn k 12 14)]
theorem cf_sym {w2 k2 a2 : Int32} : y_cf s w k a w2 k2 a2 = y_cf s w2 k2 a2 w k a := by
  unfold y_cf
  have e1 : (w = 3 ∨ w2 = 3) = (w2 = 3 ∨ w = 3) := propext or_comm
  have e2 : (y_ag w k w2 = true ∨ y_ag w2 k2 w = true) = (y_ag w2 k2 w = true ∨ y_ag w k w2 = true) := propext or_comm
  simp only [e1, e2, com_sym (k := k), Bool.and_comm (w == 4)]
/-- held: the same lock -/
theorem ask1_ok : ∀ (l : List Nat) (e : Bool), (k_ask1 Z P x l e).1 = l.any (fun y => k_same Z P y x) ∧ ((k_ask1 Z P x l e).1 = false → (k_ask1 Z P x l e).2 = (e || l.any (fun y => decide (Z.2.2 y = Z.2.2 x))))
  | [], e => ⟨rfl, fun _ => by simp [k_ask1]⟩
  | y :: l, e => by
    obtain ⟨h1, h2⟩ := ask1_ok l (e || decide (Z.2.2 y = Z.2.2 x))
    rw [k_ask1]
    by_cases c : k_same Z P y x = true
    · rw [if_pos c]
      exact ⟨by rw [List.any_cons, c]; rfl, fun z => by cases z⟩
    · rw [if_neg c]
      refine ⟨by rw [h1, List.any_cons, Bool.eq_false_iff.mpr c, Bool.false_or], fun z => ?_⟩
      rw [h2 z, List.any_cons, Bool.or_assoc]
theorem any_map_eq {α β : Type} {l : List α} {l2 : List β} {γ : Type} {f : α → γ} {g : β → γ} {p : α → Bool} {q : β → Bool} {h : γ → Bool} (e : l.map f = l2.map g) (hp : ∀ x ∈ l, p x = h (f x)) (hq : ∀ x ∈ l2, q x = h (g x)) : l.any p = l2.any q := by
  have e1 : l.any p = (l.map f).any h := by
    rw [List.any_map]
    clear e
    induction l with
    | nil => rfl
    | cons y l ih => rw [List.any_cons, List.any_cons, hp y List.mem_cons_self, ih (fun z hz => hp z (List.mem_cons_of_mem _ hz))]; rfl
  have e2 : l2.any q = (l2.map g).any h := by
    rw [List.any_map]
    clear e e1
    induction l2 with
    | nil => rfl
    | cons y l ih => rw [List.any_cons, List.any_cons, hq y List.mem_cons_self, ih (fun z hz => hq z (List.mem_cons_of_mem _ hz))]; rfl
  rw [e1, e2, e]
/-- a lock's ints as the ask brings them -/
def xl_R (Z : k_Z) (P : k_P) (x d : Nat) (v : v_N) : Prop := Z.2.2 x = d ∧ P.1 62 x = v.2.1 ∧ P.1 63 x = (if v.2.1 = 4 then v.2.2.1 else -9) ∧ P.1 64 x = (if v.2.1 = 4 then v.2.2.2 else -9)
theorem held_ok {v : v_N} {d ca : Nat} (hm : (k_hl U own o).map (LV Z P ca) = (v_LO (nI o) (v_L nl A)).map LN) (hx : xl_R Z P x d v) (hd : ∀ y ∈ k_hl U own o, (Z.2.2 y = d) = (P.1 40 (Z.2.2 y) = nI t)) : (k_hl U own o).any (fun y => k_same Z P y x) = (v_LO (nI o) (v_L nl A)).any (v_hf (nI t) v.2.1 v.2.2.1 v.2.2.2) := by
  obtain ⟨x1, x2, x3, x4⟩ := hx
  refine any_map_eq (h := fun z : v_LT => z.1 == nI t && (z.2.2.1 == v.2.1 && (z.2.2.2.1 == (if v.2.1 = 4 then v.2.2.1 else -9) && z.2.2.2.2.1 == (if v.2.1 = 4 then v.2.2.2 else -9)))) hm (fun y hy => ?_) (fun z hz => ?_)
  · unfold k_same LV
    dsimp only
    rw [x1, x2, x3, x4]
    have : decide (Z.2.2 y = d) = (P.1 40 (Z.2.2 y) == nI t) := by
      rw [Bool.eq_iff_iff, decide_eq_true_eq, beq_iff_eq, hd y hy]
    rw [this, Bool.and_assoc, Bool.and_assoc]
  · unfold v_hf LN
    dsimp only
    cases c : z.1 == nI t
    · rfl
    · cases c2 : z.2.2.1 == v.2.1
      · rfl
      · have e := beq_iff_eq.mp c2
        rw [e]
        by_cases c4 : v.2.1 = 4
        · have : (v.2.1 != 4) = false := by rw [bne_eq_false_iff_eq]; exact c4
          rw [if_pos c4, if_pos c4, if_pos c4, if_pos c4, this, Bool.false_or]
        · have : (v.2.1 != 4) = true := bne_iff_ne.mpr c4
          rw [if_neg c4, if_neg c4, if_neg c4, if_neg c4, this]
          simp
theorem ahd_ok {d ca : Nat} (hm : (k_hl U own o).map (LV Z P ca) = (v_LO (nI o) (v_L nl A)).map LN) (hd : ∀ y ∈ k_hl U own o, (Z.2.2 y = d) = (P.1 40 (Z.2.2 y) = nI t)) : (k_hl U own o).any (fun y => decide (Z.2.2 y = d)) = (v_LO (nI o) (v_L nl A)).any (fun z => z.1 == nI t) := by
  refine any_map_eq (h := fun z : v_LT => z.1 == nI t) hm (fun y hy => ?_) (fun z hz => rfl)
  rw [Bool.eq_iff_iff, decide_eq_true_eq, beq_iff_eq, hd y hy]
  rfl
/-- against: seats -/
theorem blk_ok {m : Int32} : ∀ (l : List Nat) (m : Int32), (∀ y ∈ l, ∃ i, i < 32 ∧ P.1 52 (Z.2.2 y) = nI i) → (k_blk Z P s x l m = 0 ↔ m = 0 ∧ l.any (fun y => k_cf Z P s x y) = false)
  | [], m, _ => by simp [k_blk]
  | y :: l, m, h => by
    rw [k_blk, blk_ok (m := m) l _ (fun z hz => h z (List.mem_cons_of_mem _ hz)), List.any_cons]
    obtain ⟨i, hi, e⟩ := h y List.mem_cons_self
    by_cases c : k_cf Z P s x y = true
    · rw [if_pos c, c, Bool.true_or, e]
      constructor
      · rintro ⟨z, _⟩
        have := congrArg (fun v => k_b v i) z
        rw [k_bor, k_bone i hi i hi, decide_eq_true rfl, Bool.or_true, k_b0] at this
        cases this
      · rintro ⟨_, z⟩; cases z
    · rw [if_neg c, Bool.eq_false_iff.mpr c, Bool.false_or]
theorem cfl_ok {v : v_N} {d ca : Nat} {L : List v_LT} {l : List Nat} (hm : l.map (LV Z P ca) = L.map LN) (hx : xl_R Z P x d v) (hd : ∀ y ∈ l, (Z.2.2 y = d) = (P.1 40 (Z.2.2 y) = nI t)) : l.any (fun y => k_cf Z P s x y) = L.any (v_ag s (nI t) v.2.1 v.2.2.1 v.2.2.2) := by
  obtain ⟨x1, x2, x3, x4⟩ := hx
  refine any_map_eq (h := fun z : v_LT => z.1 != nI t && y_cf s v.2.1 (if v.2.1 = 4 then v.2.2.1 else -9) (if v.2.1 = 4 then v.2.2.2 else -9) z.2.2.1 z.2.2.2.1 z.2.2.2.2.1) hm (fun y hy => ?_) (fun z hz => ?_)
  · unfold k_cf LV
    dsimp only
    rw [x1, x2, x3, x4]
    have : decide (¬ d = Z.2.2 y) = (P.1 40 (Z.2.2 y) != nI t) := by
      rw [Bool.eq_iff_iff, decide_eq_true_eq, bne_iff_ne, ne_eq, ← hd y hy]
      exact ⟨fun h e => h e.symm, fun h e => h e.symm⟩
    rw [this]
  · unfold v_ag LN
    dsimp only
    rw [cf_norm]
theorem cfq_ok {v : v_N} {d : Nat} {L : List v_WT} {l : List Nat} (hm : l.map (WV Z P) = L.map WN) (hx : xl_R Z P x d v) (hd : ∀ y ∈ l, (Z.2.2 y = d) = (P.1 40 (Z.2.2 y) = nI t)) : l.any (fun y => k_cf Z P s x y) = L.any (v_agW s (nI t) v.2.1 v.2.2.1 v.2.2.2) := by
  obtain ⟨x1, x2, x3, x4⟩ := hx
  refine any_map_eq (h := fun z : v_WT => z.1 != nI t && y_cf s v.2.1 (if v.2.1 = 4 then v.2.2.1 else -9) (if v.2.1 = 4 then v.2.2.2 else -9) z.2.2.1 z.2.2.2.1 z.2.2.2.2.1) hm (fun y hy => ?_) (fun z hz => ?_)
  · unfold k_cf WV
    dsimp only
    rw [x1, x2, x3, x4]
    have : decide (¬ d = Z.2.2 y) = (P.1 40 (Z.2.2 y) != nI t) := by
      rw [Bool.eq_iff_iff, decide_eq_true_eq, bne_iff_ne, ne_eq, ← hd y hy]
      exact ⟨fun h e => h e.symm, fun h e => h e.symm⟩
    rw [this]
  · unfold v_agW WN
    dsimp only
    rw [cf_norm]
/-- the first that does not wait early -/
def plW : List v_WT → Nat
  | [] => 0
  | x :: l => if x.2.2.2.2.2 = 0 then 0 else plW l + 1
theorem plW_map : ∀ (l : List Nat), k_plR P l = plW (l.map (WV Z P))
  | [] => rfl
  | y :: l => by
    rw [k_plR, List.map_cons, plW, plW_map l]
    rfl
theorem plW_WN : ∀ (L : List v_WT), plW (L.map WN) = plW L
  | [] => rfl
  | y :: L => by
    rw [List.map_cons, plW, plW, plW_WN L]
    rfl
theorem plW_app : ∀ (l1 l2 : List v_WT), (∀ x ∈ l1, ¬ x.2.2.2.2.2 = 0) → (∀ x, l2.head? = some x → x.2.2.2.2.2 = 0) → plW (l1 ++ l2) = l1.length
  | [], l2, _, h => by
    cases l2 with
    | nil => rfl
    | cons x l2 => rw [List.nil_append, plW, if_pos (h x rfl)]; rfl
  | x :: l1, l2, h1, h2 => by
    rw [List.cons_append, plW, if_neg (h1 x List.mem_cons_self), plW_app l1 l2 (fun y hy => h1 y (List.mem_cons_of_mem _ hy)) h2]
    rfl
theorem seat_ok {e : Bool} : ∃ p, p = (if e = true then plW (v_WO (nI o) (v_W nw A)) else (v_WO (nI o) (v_W nw A)).length) ∧ p ≤ (v_WO (nI o) (v_W nw A)).length ∧ v_WO (nI o) ((v_W nw A).take (y_seat (nI o) e nw A)) = (v_WO (nI o) (v_W nw A)).take p ∧ v_WO (nI o) ((v_W nw A).drop (y_seat (nI o) e nw A)) = (v_WO (nI o) (v_W nw A)).drop p := by
  cases e with
  | false =>
    refine ⟨_, rfl, Nat.le_refl _, ?_, ?_⟩
    · unfold y_seat
      rw [if_neg (by decide), if_neg (by decide), List.take_of_length_le (by rw [v_Wl]; exact Nat.le_refl _), List.take_length]
    · unfold y_seat
      rw [if_neg (by decide), if_neg (by decide), List.drop_eq_nil_of_le (by rw [v_Wl]; exact Nat.le_refl _), List.drop_length]
      rfl
  | true =>
    unfold y_seat
    rw [if_pos rfl, if_pos rfl]
    obtain ⟨h1, h2, h3⟩ := v_stR (o := nI o) (A := A) nw nw (Nat.le_refl _) (fun j h1 h2 => by omega)
    generalize y_stR (nI o) A nw nw = s at h1 h2 h3
    have sp : v_WO (nI o) (v_W nw A) = v_WO (nI o) ((v_W nw A).take s) ++ v_WO (nI o) ((v_W nw A).drop s) := by
      unfold v_WO
      rw [← List.filter_append, List.take_append_drop]
    have all1 : ∀ x ∈ v_WO (nI o) ((v_W nw A).take s), ¬ x.2.2.2.2.2 = 0 := fun x hx z => by
      obtain ⟨x1, x2⟩ := List.mem_filter.mp hx
      simp only [beq_iff_eq] at x2
      obtain ⟨j, hj, e⟩ := List.getElem_of_mem x1
      rw [List.length_take, v_Wl] at hj
      have e2 : (v_W nw A)[j]? = some x := by
        rw [← e, List.getElem_take]
        exact List.getElem?_eq_getElem (by rw [v_Wl]; omega)
      rw [v_Wg, if_pos (by omega)] at e2
      cases e2
      exact h3 j (by omega) (by omega) ⟨x2, z⟩
    have hd2 : ∀ x, (v_WO (nI o) ((v_W nw A).drop s)).head? = some x → x.2.2.2.2.2 = 0 := fun x hx => by
      rcases h2 with e | ⟨e1, e2, e3⟩
      · rw [List.drop_eq_nil_of_le (by rw [v_Wl]; omega)] at hx
        cases hx
      · have hl : s < (v_W nw A).length := by rw [v_Wl]; exact e1
        have hge : (v_W nw A)[s] = v_w A s := by
          have := v_Wg (n := nw) (i := s) (A := A)
          rw [if_pos e1] at this
          exact (List.getElem?_eq_some_iff.mp this).2
        rw [List.drop_eq_getElem_cons hl, hge] at hx
        unfold v_WO at hx
        rw [List.filter_cons_of_pos (by simp only [v_w, beq_iff_eq]; exact e2)] at hx
        cases hx
        exact e3
    have ep : plW (v_WO (nI o) (v_W nw A)) = (v_WO (nI o) ((v_W nw A).take s)).length := by rw [sp]; exact plW_app _ _ all1 hd2
    refine ⟨_, rfl, ?_, ?_, ?_⟩
    · rw [ep, sp, List.length_append]; omega
    · rw [ep]
      conv => rhs; rw [sp]
      rw [List.take_left]
    · rw [ep]
      conv => rhs; rw [sp]
      rw [List.drop_left]
end RZ
