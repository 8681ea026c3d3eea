/-! acts again: the reference's loops; digests -/
section UG
variable {P P' : k_P} {U : k_U} {S S' : m_S} {A : m_A} {F : Nat → Int32} {n x0 s t nr na : Nat} {st : Nat → m_S → m_S} {l : List Nat}
/-- m of them, the last first -/
def revr (c : Nat → Nat) : Nat → List Nat
  | 0 => []
  | m + 1 => c m :: revr c m
theorem revr_mem {c : Nat → Nat} : ∀ {m x : Nat}, x ∈ revr c m ↔ ∃ j, j < m ∧ c j = x
  | 0, x => ⟨(fun h => by cases h), (fun ⟨j, h, _⟩ => by omega)⟩
  | m + 1, x => by
    rw [revr, List.mem_cons, revr_mem]
    constructor
    · rintro (h | ⟨j, h1, h2⟩)
      · exact ⟨m, by omega, h.symm⟩
      · exact ⟨j, by omega, h2⟩
    · rintro ⟨j, h1, h2⟩
      by_cases e : j = m
      · subst e; exact Or.inl h2.symm
      · exact Or.inr ⟨j, by omega, h2⟩
theorem revr_rev : ∀ (l : List Nat), revr (fun j => l.getD j 0) l.length = l.reverse := fun l => by
  have key : ∀ m, m ≤ l.length → revr (fun j => l.getD j 0) m = (l.take m).reverse := fun m => by
    induction m with
    | zero => intro _; rfl
    | succ m ih =>
      intro h
      rw [revr, ih (by omega), List.take_succ, List.reverse_append, List.getD_eq_getElem?_getD, List.getElem?_eq_getElem (by omega)]
      rfl
  rw [key l.length (Nat.le_refl _), List.take_length]
theorem Rd_ka {c : Nat → Nat} : ∀ (m : Nat) (b : Bool) (S : m_S), (Rd 40 y_ka1 (revr c m) b S).2 = y_kaL c m S
  | 0, _, _ => rfl
  | m + 1, b, S => by rw [revr, Rd, y_kaL, Rd_ka m]
theorem Rd_sa {c : Nat → Nat} : ∀ (m : Nat) (b : Bool) (S : m_S), Rd 80 (fun i S => (y_wk 80 i S).2) (revr c m) b S = y_saL c m b S
  | 0, _, _ => rfl
  | m + 1, b, S => by rw [revr, Rd, y_saL, Rd_sa m]
theorem w_ka {c : Nat → Nat} : ∀ (m : Nat) (S : m_S), (∀ j, j < m → c j < 700) → w_al 40 y_ka1 (revr c m) S → w_kaL c m S
  | 0, _, _, _ => trivial
  | m + 1, S, h, hw => ⟨h m (by omega), hw.1, w_ka m _ (fun j hj => h j (by omega)) hw.2⟩
theorem w_sa {c : Nat → Nat} : ∀ (m : Nat) (S : m_S), (∀ j, j < m → c j < 700) → w_al 80 (fun i S => (y_wk 80 i S).2) (revr c m) S → w_saL c m S
  | 0, _, _, _ => trivial
  | m + 1, S, h, hw => ⟨h m (by omega), hw.1, w_sa m _ (fun j hj => h j (by omega)) hw.2⟩
theorem ka_ok : st_ok 40 y_ka1 := fun i S => ⟨rfl, fun f hf => by unfold y_ka1; dsimp only; rw [up_n hf]⟩
theorem sa_ok : st_ok 80 (fun i S => (y_wk 80 i S).2) := fun i S => ⟨rfl, fun f hf => rfl⟩
/-- the acts of a chain, by number -/
theorem cl_cn : ∀ (l : List Nat) (v : Int32), cl A v l → (0 < l.length → v = nI (l.getD 0 0)) ∧ ∀ j, j + 1 < l.length → A 43 (l.getD j 0) = nI (l.getD (j + 1) 0)
  | [], _, _ => ⟨fun h => by simp at h, fun j h => by simp at h⟩
  | i :: l, v, h => by
    obtain ⟨h1, h2⟩ := h
    obtain ⟨q1, q2⟩ := cl_cn l _ h2
    refine ⟨fun _ => h1, fun j hj => ?_⟩
    cases j with
    | zero =>
      rw [List.length_cons] at hj
      exact q1 (by omega)
    | succ j =>
      rw [List.length_cons] at hj
      exact q2 j (by omega)
theorem chn_cn (h : I_chn nr na A t l) (hna : na ≤ 600) : w_cn A t l.length (fun j => l.getD j 0) := by
  obtain ⟨a1, a2, a3, a4, a5⟩ := h
  obtain ⟨q1, q2⟩ := cl_cn l _ a3
  refine ⟨q1, fun j hj => ?_, q2⟩
  have : l.getD j 0 ∈ l := by
    rw [List.getD_eq_getElem?_getD, List.getElem?_eq_getElem hj]
    exact List.getElem_mem _
  have := (a4 _ this).1
  dsimp only
  omega
/-- what acts done again leave alone -/
theorem Rd_fr (hst : st_ok x0 st) : ∀ (L : List Nat) (b : Bool) (S : m_S), (∀ f, f ≠ 25 → f ≠ 28 → f ≠ 26 → f ≠ 27 → f ≠ 30 → (Rd x0 st L b S).2.1 f = S.1 f) ∧ (∀ f, f ≠ 31 → f ≠ 9 → f ≠ 10 → f ≠ 11 → f ≠ 12 → f ≠ 101 → (Rd x0 st L b S).2.2 f = S.2 f)
  | [], _, _ => ⟨fun _ _ _ _ _ _ => rfl, fun _ _ _ _ _ _ _ => rfl⟩
  | i :: L, b, S => by
    obtain ⟨q1, q2⟩ := Rd_fr hst L (b && (decide ((y_wk x0 i S).2.1 25 = 0) && decide ((y_wk x0 i S).1 = S.2 39 i))) (st i S)
    obtain ⟨s1, s2⟩ := hst i S
    have zf := (z_frW (x := x0 + (S.2 35 i).toNatClampNeg) (k := (S.2 36 i).toNatClampNeg) (a := S.2 37 i) (b := S.2 38 i) (S := S))
    refine ⟨fun f h1 h2 h3 h4 h5 => ?_, fun f h1 h2 h3 h4 h5 h6 => ?_⟩
    · rw [Rd, q1 f h1 h2 h3 h4 h5, s1]; exact zf.1 f h1 h2 h3 h4 h5
    · rw [Rd, q2 f h1 h2 h3 h4 h5 h6, s2 f h6]; exact zf.2.1 f h1 h2 h3 h4 h5
/-- where nothing is told, nothing is traced -/
theorem yb0 {v : Int32} (h : S.1 29 = 0) : y_body v S = S := by unfold y_body; rw [if_pos h]
def T0 (S S' : m_S) : Prop := S'.1 29 = 0 ∧ S'.1 30 = S.1 30 ∧ S'.2 31 = S.2 31
theorem T0.uF {S' : m_S} (h : T0 S S') {f : Nat} {v : Int32} (h1 : f ≠ 29) (h2 : f ≠ 30) : T0 S (va_up S'.1 f v, S'.2) := ⟨by dsimp only; rw [up_n (Ne.symm h1)]; exact h.1, by dsimp only; rw [up_n (Ne.symm h2)]; exact h.2.1, h.2.2⟩
theorem T0.uA {S' : m_S} (h : T0 S S') {f : Nat} {v : Nat → Int32} (h1 : f ≠ 31) : T0 S (S'.1, va_up S'.2 f v) := ⟨h.1, h.2.1, by dsimp only; rw [up_n (Ne.symm h1)]; exact h.2.2⟩
theorem T0.rf (h : S.1 29 = 0) : T0 S S := ⟨h, rfl, rfl⟩
theorem T0_more {x : Nat} {a : Int64} {S' : m_S} (h : T0 S S') : T0 S (y_more x a S') := by
  have hb : ∀ v, y_body v S' = S' := fun v => yb0 h.1
  unfold y_more
  simp only [hb]
  split
  · exact h.uA (by decide)
  · split
    · exact h.uF (by decide) (by decide)
    · split
      · exact h.uF (by decide) (by decide)
      · have h' : T0 S (va_up S'.1 25 0, S'.2) := h.uF (by decide) (by decide)
        rw [yb0 h'.1]
        exact h'.uA (by decide)
theorem T0_sum {x : Nat} : ∀ (n o : Nat) (v : Int32) {S' : m_S}, T0 S S' → T0 S (y_sumR x o n v S').2
  | 0, _, _, _, h => h
  | n + 1, o, v, S', h => by
    rw [y_sumR]
    split
    · rw [yb0 h.1]; exact T0_sum n _ _ h
    · exact T0_sum n _ _ h
theorem tr_wA {x k : Nat} {a b : Int32} (hk : k < 22) {S' : m_S} (h : T0 S S') : T0 S (y_wA x k a b S').2 := by
  have hb : ∀ v, y_body v S' = S' := fun v => yb0 h.1
  obtain rfl | rfl | rfl | rfl | rfl | rfl | rfl | rfl | rfl | rfl | rfl | rfl | rfl | rfl | rfl | rfl | rfl | rfl | rfl | rfl | rfl | rfl : k = 0 ∨ k = 1 ∨ k = 2 ∨ k = 3 ∨ k = 4 ∨ k = 5 ∨ k = 6 ∨ k = 7 ∨ k = 8 ∨ k = 9 ∨ k = 10 ∨ k = 11 ∨ k = 12 ∨ k = 13 ∨ k = 14 ∨ k = 15 ∨ k = 16 ∨ k = 17 ∨ k = 18 ∨ k = 19 ∨ k = 20 ∨ k = 21 := by omega
  all_goals simp (decide := true) only [y_wA, if_true, if_false, hb]
  · exact h
  · exact T0_more h
  · unfold y_by y_by2
    rw [hb, hb]
    have h' : T0 S (va_up S'.1 25 0, S'.2) := h.uF (by decide) (by decide)
    rw [yb0 h'.1]
    repeat' split
    all_goals first | exact h.uF (by decide) (by decide) | exact (h.uF (by decide) (by decide)).uA (by decide) | exact (h'.uF (by decide) (by decide)) | exact (h'.uF (by decide) (by decide)).uA (by decide)
  · exact h.uA (by decide)
  · unfold y_ofSet
    rw [hb]
    repeat' split
    all_goals first | exact h | exact h.uA (by decide)
  · unfold y_ofSet
    rw [hb]
    repeat' split
    all_goals first | exact h | exact h.uA (by decide)
  · unfold y_ofSet
    rw [hb]
    repeat' split
    all_goals first | exact h | exact h.uA (by decide)
  · exact h
  · unfold y_ofQ
    rw [hb]
    dsimp only
    repeat' split
    all_goals first | exact h | exact h.uF (by decide) (by decide) | exact (h.uA (by decide)).uA (by decide)
  · unfold y_ofQ
    rw [hb]
    dsimp only
    repeat' split
    all_goals first | exact h | exact h.uF (by decide) (by decide) | exact (h.uA (by decide)).uA (by decide)
  · unfold y_ofQ
    rw [hb]
    dsimp only
    repeat' split
    all_goals first | exact h | exact h.uF (by decide) (by decide) | exact (h.uA (by decide)).uA (by decide)
  · unfold y_ofQ
    rw [hb]
    dsimp only
    repeat' split
    all_goals first | exact h | exact h.uF (by decide) (by decide) | exact (h.uA (by decide)).uA (by decide)
  · unfold y_ofMap
    rw [hb]
    dsimp only
    repeat' split
    all_goals first | exact (h.uF (by decide) (by decide)).uF (by decide) (by decide) | exact ((h.uF (by decide) (by decide)).uF (by decide) (by decide)).uF (by decide) (by decide) | exact (((h.uF (by decide) (by decide)).uF (by decide) (by decide)).uA (by decide)).uA (by decide) | exact (((h.uF (by decide) (by decide)).uF (by decide) (by decide)).uF (by decide) (by decide)).uA (by decide)
  · unfold y_ofMap
    rw [hb]
    dsimp only
    repeat' split
    all_goals first | exact (h.uF (by decide) (by decide)).uF (by decide) (by decide) | exact ((h.uF (by decide) (by decide)).uF (by decide) (by decide)).uF (by decide) (by decide) | exact (((h.uF (by decide) (by decide)).uF (by decide) (by decide)).uA (by decide)).uA (by decide) | exact (((h.uF (by decide) (by decide)).uF (by decide) (by decide)).uF (by decide) (by decide)).uA (by decide)
  · unfold y_ofMap
    rw [hb]
    dsimp only
    repeat' split
    all_goals first | exact (h.uF (by decide) (by decide)).uF (by decide) (by decide) | exact ((h.uF (by decide) (by decide)).uF (by decide) (by decide)).uF (by decide) (by decide) | exact (((h.uF (by decide) (by decide)).uF (by decide) (by decide)).uA (by decide)).uA (by decide) | exact (((h.uF (by decide) (by decide)).uF (by decide) (by decide)).uF (by decide) (by decide)).uA (by decide)
  · exact T0_more h
  · exact T0_more h
  · exact h.uA (by decide)
  · unfold y_bump
    rw [hb]
    split
    · exact (h.uF (by decide) (by decide)).uF (by decide) (by decide)
    · split
      · exact T0_more (h.uF (by decide) (by decide))
      · exact (h.uF (by decide) (by decide)).uF (by decide) (by decide)
  · unfold y_move
    rw [hb, hb]
    dsimp only
    have h2 : T0 S (y_more x (-a.toInt64) S') := T0_more h
    generalize y_more x (-a.toInt64) S' = S2 at h2
    split
    · rw [yb0 h2.1]
      have h3 : T0 S (if S2.2 4 b.toNatClampNeg = 6 then y_more (x - x % 40 + b.toNatClampNeg) a.toInt64 S2 else (va_up S2.1 25 2, S2.2)) := by
        split
        · exact T0_more h2
        · exact h2.uF (by decide) (by decide)
      generalize (if S2.2 4 b.toNatClampNeg = 6 then y_more (x - x % 40 + b.toNatClampNeg) a.toInt64 S2 else (va_up S2.1 25 2, S2.2)) = S3 at h3
      split
      · exact h3
      · exact h3.uA (by decide)
    · exact h2
  · unfold y_sum
    rw [hb]
    exact T0_sum _ _ _ h
  · exact h
theorem tr_w {x k : Nat} {a b : Int32} (hk : k < 22) {S' : m_S} (h : T0 S S') : T0 S (y_work x k a b S').2 := by
  unfold y_work
  have h1 : T0 S (va_up (va_up S'.1 25 0) 28 (S'.2 9 x), S'.2) := (h.uF (by decide) (by decide)).uF (by decide) (by decide)
  split
  · exact tr_wA hk h1
  · exact h1.uF (by decide) (by decide)
theorem dgQ_cg {f g : Nat → Int32} : ∀ (m b b' : Nat) (d : Int32), (∀ i, i < m → f (b + i) = g (b' + i)) → y_dgQ f b m d = y_dgQ g b' m d
  | 0, _, _, _, _ => rfl
  | m + 1, b, b', d, h => by
    rw [y_dgQ, y_dgQ, show f b = g b' from h 0 (by omega)]
    exact dgQ_cg m (b + 1) (b' + 1) _ (fun i hi => by have := h (i + 1) (by omega); rw [show b + 1 + i = b + (i + 1) by omega, show b' + 1 + i = b' + (i + 1) by omega]; exact this)
theorem dgM_cg {v : Int32} {f g : Nat → Int32} : ∀ (m b b' k : Nat) (d : Int32), k + m ≤ 8 → (∀ i, i < 8 → k_b v i = true → f (b + i) = g (b' + i)) → y_dgM v f b k m d = y_dgM v g b' k m d
  | 0, _, _, _, _, _, _ => rfl
  | m + 1, b, b', k, d, hk, h => by
    rw [y_dgM, y_dgM]
    have e : (if (v >>> (nI k &&& 31)) &&& 1 = 1 then f (b + k) + 1 else 0) = (if (v >>> (nI k &&& 31)) &&& 1 = 1 then g (b' + k) + 1 else 0) := by
      by_cases c : (v >>> (nI k &&& 31)) &&& 1 = 1
      · rw [if_pos c, if_pos c]
        rw [k_and1, k_bshr (by omega)] at c
        rw [h k (by omega) c]
      · rw [if_neg c, if_neg c]
    rw [e]
    exact dgM_cg m b b' (k + 1) _ (by omega) h
/-- a thing's summary is the reference's digest -/
theorem dig_ok {o : Nat} (hS : R_sh P U s n A x0) (ho : o < n) (hn : n ≤ 40) (hx : x0 = 0 ∨ x0 = 40 ∨ x0 = 80) : k_sum P (k_th U s o) = y_dig F A (x0 + o) := by
  obtain ⟨h1, _, _, ⟨v4, v5, v6⟩, _⟩ := hS o ho
  have es : y_sort F A (x0 + o) = A 4 o := by
    unfold y_sort
    rw [if_neg (by omega)]
    congr 1
    rcases hx with z | z | z <;> subst z <;> omega
  unfold k_sum y_dig
  rw [h1, es]
  by_cases c4 : A 4 o = 4
  · rw [if_pos c4, if_pos c4]
    obtain ⟨z, z1, z2, z3, z4, z5, z6⟩ := v4 c4
    rw [z2, z3, i_cl (by omega)]
    exact dgQ_cg z 0 (8 * (x0 + o)) 17 (fun i hi => by rw [Nat.zero_add]; exact z6 i hi)
  · rw [if_neg c4, if_neg c4]
    by_cases c5 : A 4 o = 5
    · rw [if_pos c5, if_pos c5]
      obtain ⟨z1, z2, z3, z4⟩ := v5 c5
      rw [z1]
      exact dgM_cg 8 0 (8 * (x0 + o)) 0 17 (by omega) (fun i hi hb => by rw [Nat.zero_add]; exact z4 i hi hb)
    · rw [if_neg c5, if_neg c5]
      exact (v6 c4 c5).1
end UG
