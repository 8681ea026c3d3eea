/-! one act undone: the reference's side -/
section RJ
variable {Z Z' : k_Z} {U U' : k_U} {P P' P'' P1 : k_P} {S S' S'' S1 : m_S} {own n b nr na t o k i : Nat} {A A' : m_A} {F : Nat → Int32} {ch : Nat → List Nat}
theorem ite_ap {α β : Type} {c : Prop} [Decidable c] {f g : α → β} {x : α} : (if c then f else g) x = if c then f x else g x := by split <;> rfl
theorem ycon_A {bb f : Nat} (h1 : f ≠ 9) (h2 : f ≠ 10) (h3 : f ≠ 11) (h4 : f ≠ 12) : y_con i k o bb A f = A f := by
  simp only [y_con, ite_ap, up_n h1, up_n h2, up_n h3, up_n h4, ite_self]
theorem I_row.cg {j : Nat} (h : I_row b A j) (hw : A' 17 j = A 17 j) (ho : A' 18 j = A 18 j) (hob : A' 19 j = A 19 j) (hk : A' 20 j = A 20 j) (ha : A' 21 j = A 21 j) (hb : A' 22 j = A 22 j) (hans : A' 23 j = A 23 j) (hm : md A' j = md A j)
    (s1 : ∀ q, q ≤ md A j → A' 4 q = A 4 q) (s2 : ∀ q, q ≤ md A j → A' 5 q = A 5 q) (s3 : ∀ q, q ≤ md A j → A' 6 q = A 6 q) : I_row b A' j := by
  obtain ⟨h1, h2, h3⟩ := h
  unfold I_row
  rw [hw, ho, hob, hk, ha, hb, hans, hm, s1 _ (Nat.le_refl _), s2 _ (Nat.le_refl _), s3 _ (Nat.le_refl _)]
  refine ⟨h1, fun e => ?_, h3⟩
  obtain ⟨t, o, k, a1, a2, a3, a4, a5, a6, a7, a8, a9, b1, b2, b3⟩ := h2 e
  refine ⟨t, o, k, a1, a2, a3, a4, a5, a6, a7, a8, by rw [s1 o (by omega)]; exact a9, b1, fun e => ?_, fun e => ?_⟩
  · obtain ⟨q, q1, q2, q3⟩ := b2 e
    exact ⟨q, q1, q2, by rw [s1 q (by omega)]; exact q3⟩
  · obtain ⟨q, q1, q2, q3, q4⟩ := b3 e
    exact ⟨q, q1, q2, q3, by rw [s1 q (by omega)]; exact q4⟩
/-- acts' arrays are the same -/
def ac_eq (A A' : m_A) : Prop := A' 42 = A 42 ∧ A' 35 = A 35 ∧ A' 36 = A 36 ∧ A' 37 = A 37 ∧ A' 38 = A 38 ∧ A' 39 = A 39 ∧ A' 40 = A 40 ∧ A' 41 = A 41 ∧ A' 43 = A 43
/-- rows' arrays are the same up to one -/
def rw_eq (nr : Nat) (A A' : m_A) : Prop := ∀ j, j < nr → A' 17 j = A 17 j ∧ A' 18 j = A 18 j ∧ A' 19 j = A 19 j ∧ A' 20 j = A 20 j ∧ A' 21 j = A 21 j ∧ A' 22 j = A 22 j ∧ A' 23 j = A 23 j ∧ A' 24 j = A 24 j
theorem ar_cg (h : ac_eq A A') (j : Nat) : ar A' j = ar A j := by unfold ar; rw [h.1]
theorem I_act.cg {nr' na' : Nat} (h : I_act nr na A t i) (ha : ac_eq A A') (hr : rw_eq nr A A') (hn : nr ≤ nr') (hna : na ≤ na') : I_act nr' na' A' t i := by
  obtain ⟨a1, a2, a3, a4, a5, a6, a7, a8, a9, b1, b2, b3⟩ := h
  obtain ⟨r1, r2, r3, r4, r5, r6, r7, r8⟩ := hr _ a3
  unfold I_act
  rw [ar_cg ha]
  obtain ⟨h1, h2, h3, h4, h5, h6, h7, h8, h9⟩ := ha
  rw [h1, h2, h3, h4, h5, h6, h7, h8, r1, r2, r3, r4, r5, r6, r7]
  exact ⟨by omega, a2, by omega, a4, a5, a6, a7, a8, a9, b1, b2, b3⟩
theorem I_chn.cg {nr' na' : Nat} {l : List Nat} (h : I_chn nr na A t l) (ha : ac_eq A A') (hr : rw_eq nr A A') (hn : nr ≤ nr') (hna : na ≤ na') (e1 : A' 52 t = A 52 t) (e2 : A' 53 t = A 53 t) : I_chn nr' na' A' t l := by
  obtain ⟨a1, a2, a3, a4, a5⟩ := h
  refine ⟨by rw [e1]; exact a1, a2, by rw [e2]; exact cl_cg l _ (fun i _ => by rw [ha.2.2.2.2.2.2.2.2]) a3, fun i hi => (a4 i hi).cg ha hr hn hna, ?_⟩
  exact a5.imp (fun {x y} h => by rw [ar_cg ha, ar_cg ha]; exact h)
theorem I_chn.tl {l : List Nat} (h : I_chn nr na A t (i :: l)) (e1 : A' 52 t = A 52 t - 1) (e2 : A' 53 t = A 43 i) (ha : ac_eq A A') (hr : rw_eq nr A A') {nr' : Nat} (hn : nr ≤ nr') : I_chn nr' na A' t l := by
  obtain ⟨a1, a2, a3, a4, a5⟩ := h
  rw [List.length_cons] at a1 a2
  refine ⟨by rw [e1, a1, i_s1 (by omega), Nat.add_sub_cancel], by omega, by rw [e2]; exact cl_cg l _ (fun i _ => by rw [ha.2.2.2.2.2.2.2.2]) a3.2, fun i hi => (a4 i (List.mem_cons_of_mem _ hi)).cg ha hr hn (Nat.le_refl _), ?_⟩
  exact (List.pairwise_cons.mp a5).2.imp (fun {x y} h => by rw [ar_cg ha, ar_cg ha]; exact h)
theorem qs_cg (ha : ac_eq A A') {l : List Nat} : qs A' o l = qs A o l := by unfold qs; rw [ha.2.1, ha.2.2.1]
theorem ms_cg (ha : ac_eq A A') {q : Nat} {l : List Nat} : ms A' o q l = ms A o q l := by unfold ms; rw [ha.2.1, ha.2.2.1, ha.2.2.2.1]
theorem I_dy.cg {l : List Nat} (h : I_dy n A l) (ha : ac_eq A A') (es : A' 4 = A 4) (e1 : ∀ o, o < n → A' 10 o = A 10 o ∨ qs A o l = []) (e2 : ∀ o, o < n → ∀ q, q < 8 → k_b (A' 11 o) q = k_b (A 11 o) q ∨ ms A o q l = []) : I_dy n A' l := fun o ho => by
  obtain ⟨h1, h2⟩ := h o ho
  rw [es]
  refine ⟨fun s4 z hz e => ?_, fun s5 q hq => ?_⟩
  · rw [qs_cg ha]
    rcases e1 o ho with e' | e'
    · rw [e'] at e; exact sw_cg ha.2.2.1 _ _ (h1 s4 z hz e)
    · rw [e']; trivial
  · rw [ms_cg ha]
    rcases e2 o ho q hq with e' | e'
    · rw [e']; exact mw_cg ha.2.2.1 ha.2.2.2.2.2.2.2.1 _ _ (h2 s5 q hq)
    · rw [e']; trivial
/-- the act that is undone, by its row -/
theorem act_of {l : List Nat} (h : I_lg n b nr na ch S) (h1 : 1 ≤ t) (h2 : t ≤ b) (hu : undw S.2 t) (hc : ch t = i :: l) : ∃ o k, o < n ∧ k < 22 ∧ S.2 35 i = nI o ∧ S.2 36 i = nI k ∧ ar_R n o k (S.2 37 i) (S.2 38 i) ∧ y_has (S.2 4 o) (nI k) = true ∧ cy_R k o i S.2 ∧ (k = 17 → S.2 40 i = -1 ∨ ∃ q, q < n ∧ S.2 40 i = nI q) ∧ (k = 18 → ∃ q, q < n ∧ S.2 38 i = nI q ∧ (S.2 4 q = 1 ∨ S.2 4 q = 6)) ∧ (k = 19 → ∃ q, q < n ∧ q ≠ o ∧ S.2 38 i = nI q ∧ S.2 4 q = 6) ∧ (k = 3 ∨ k = 17 → S.2 39 i = S.2 40 i) := by
  obtain ⟨g1, g2, g3, g4, g5, g6, g7, g8, g9, g10⟩ := h
  have hch := g7 t h1 h2 (Or.inl hu)
  have hdy := g8 t h1 h2 hu
  rw [hc] at hch hdy
  obtain ⟨a1, a2, a3, a4, a5, a6, a7, a8, a9, b1, b2, b3⟩ := hch.2.2.2.1 i List.mem_cons_self
  obtain ⟨t', o, k, c1, c2, c3, c4, c5, c6, c7, c8, c9, d1, d2, d3⟩ := (g6 _ a3).2.1 a4
  have hm : md S.2 (ar S.2 i) ≤ n := by rw [g2]; exact md_mono (by omega)
  have eo : S.2 35 i = nI o := by rw [a6]; exact c4
  have ek : S.2 36 i = nI k := by rw [a7]; exact c6
  have kk : ∀ m : Nat, m < 22 → (S.2 36 i = nI m) = (k = m) := fun m hm => by rw [ek, i_eq (by omega) (by omega)]
  have ho : o < n := by omega
  have e317 : k = 3 ∨ k = 17 → S.2 39 i = S.2 40 i := fun z => b2 (by
    rcases z with z | z
    · exact Or.inl (by rw [show (3 : Int32) = nI 3 from rfl, kk 3 (by omega)]; exact z)
    · exact Or.inr (by rw [show (17 : Int32) = nI 17 from rfl, kk 17 (by omega)]; exact z))
  refine ⟨o, k, ho, c7, eo, ek, by rw [a8, a9]; exact ar_mono hm c8, c9, ⟨fun z => ?_, fun z => ?_, fun z => ?_⟩, fun z => ?_, fun z => ?_, fun z => ?_, e317⟩
  · subst z
    have s4 : S.2 4 o = 4 := by rw [show nI 8 = 8 from rfl, yh_8] at c9; simpa using c9
    obtain ⟨z, hz, ez⟩ := g10 o (by have := g3.1; omega)
    have w := (hdy o ho).1 s4 z hz ez
    unfold qs at w
    rw [List.filter_cons_of_pos (by simp only [eo, ek, decide_true, Bool.true_and]; decide), sw, if_pos (show S.2 36 i = 8 from ek)] at w
    exact ⟨z, w.1, hz, ez⟩
  · subst z
    have s4 : S.2 4 o = 4 := by rw [show nI 9 = 9 from rfl, yh_9] at c9; simpa using c9
    obtain ⟨z, hz, ez⟩ := g10 o (by have := g3.1; omega)
    have w := (hdy o ho).1 s4 z hz ez
    unfold qs at w
    rw [List.filter_cons_of_pos (by simp only [eo, ek, decide_true, Bool.true_and]; decide), sw, if_neg (by rw [ek]; decide)] at w
    exact ⟨z, w.1, ez⟩
  · obtain ⟨q, hq, eq⟩ := c8.2.1 (by omega) (by omega)
    have ea : S.2 37 i = nI q := by rw [a8]; exact eq
    refine ⟨q, hq, ea, fun z => ?_⟩
    subst z
    have s5 : S.2 4 o = 5 := by rw [show nI 12 = 12 from rfl, yh_12] at c9; simpa using c9
    have w := (hdy o ho).2 s5 q hq
    unfold ms at w
    rw [List.filter_cons_of_pos (by simp only [eo, ek, ea, decide_true, Bool.true_and, Bool.and_true]; decide), mw, if_pos (show S.2 36 i = 12 from ek)] at w
    exact w.1
  · rw [← e317 (Or.inr z), b1]
    rcases d1 z with e | ⟨q, hq, e⟩
    · exact Or.inl e
    · exact Or.inr ⟨q, by omega, e⟩
  · obtain ⟨q, q1, q2, q3⟩ := d2 z
    exact ⟨q, by omega, by rw [a9]; exact q2, q3⟩
  · obtain ⟨q, q1, q2, q3, q4⟩ := d3 z
    exact ⟨q, by omega, q2, by rw [a9]; exact q3, q4⟩
/-- chains with one of them changed -/
def up1 (ch : Nat → List Nat) (t : Nat) (l : List Nat) : Nat → List Nat := fun u => if u = t then l else ch u
theorem up1_s {l : List Nat} : up1 ch t l t = l := if_pos rfl
theorem up1_n {l : List Nat} {u : Nat} (h : u ≠ t) : up1 ch t l u = ch u := if_neg h
theorem ytb_F {f : Nat} (h : f ≠ 13) : (y_tb1 t S).1 f = S.1 f := by
  unfold y_tb1 y_put
  dsimp only
  rw [up_n h]
theorem ytb_r (h : S.1 13 = nI nr) : (y_tb1 t S).1 13 = nI (nr + 1) := by
  unfold y_tb1 y_put
  dsimp only
  rw [up_s, h, i_a1]
theorem ytb_A {f : Nat} (h : f ≠ 17 ∧ f ≠ 18 ∧ f ≠ 19 ∧ f ≠ 20 ∧ f ≠ 21 ∧ f ≠ 22 ∧ f ≠ 23 ∧ f ≠ 24 ∧ f ≠ 53 ∧ f ≠ 52 ∧ f ≠ 9 ∧ f ≠ 10 ∧ f ≠ 11 ∧ f ≠ 12) : (y_tb1 t S).2 f = S.2 f := by
  obtain ⟨h1, h2, h3, h4, h5, h6, h7, h8, h9, g1, g2, g3, g4, g5⟩ := h
  unfold y_tb1 y_put
  dsimp only
  rw [up_n g1, up_n h9, up_n h8, up_n h7, up_n h6, up_n h5, up_n h4, up_n h3, up_n h2, up_n h1, ycon_A g2 g3 g4 g5]
theorem ytb_V {f : Nat} (h : f = 9 ∨ f = 10 ∨ f = 11 ∨ f = 12) : (y_tb1 t S).2 f = y_con (S.2 53 t).toNatClampNeg (S.2 36 (S.2 53 t).toNatClampNeg).toNatClampNeg (S.2 35 (S.2 53 t).toNatClampNeg).toNatClampNeg (S.2 38 (S.2 53 t).toNatClampNeg).toNatClampNeg S.2 f := by
  unfold y_tb1 y_put
  dsimp only
  rw [up_n (by omega), up_n (by omega), up_n (by omega), up_n (by omega), up_n (by omega), up_n (by omega), up_n (by omega), up_n (by omega), up_n (by omega), up_n (by omega)]
theorem ytb_lm : (y_tb1 t S).2 53 = va_up (S.2 53) t (S.2 43 (S.2 53 t).toNatClampNeg) ∧ (y_tb1 t S).2 52 = va_up (S.2 52) t (S.2 52 t - 1) := by
  unfold y_tb1 y_put
  dsimp only
  exact ⟨by rw [up_n (by decide), up_s], by rw [up_s]⟩
/-- a row more: the arrays -/
def rowAt (A : m_A) (j : Nat) (w t o k a b c u : Int32) : Prop := A 17 j = w ∧ A 18 j = t ∧ A 19 j = o ∧ A 20 j = k ∧ A 21 j = a ∧ A 22 j = b ∧ A 23 j = c ∧ A 24 j = u
theorem yput_row (hr : S.1 13 = nI nr) (hn : nr ≤ 6000) {w t o k a b c u : Int32} : rowAt (y_put w t o k a b c u S).2 nr w t o k a b c u ∧ ∀ j, j ≠ nr → rowAt (y_put w t o k a b c u S).2 j (S.2 17 j) (S.2 18 j) (S.2 19 j) (S.2 20 j) (S.2 21 j) (S.2 22 j) (S.2 23 j) (S.2 24 j) := by
  unfold rowAt y_put
  dsimp only
  rw [hr, i_cl (by omega)]
  refine ⟨?_, fun j hj => ?_⟩
  · simp (decide := true) only [va_up, if_true, if_false, and_self]
  · simp (decide := true) only [va_up, if_true, if_false, and_self, hj]
theorem ytb_row (hr : S.1 13 = nI nr) (hn : nr ≤ 6000) : rowAt (y_tb1 t S).2 nr 3 (nI t) (S.2 35 (S.2 53 t).toNatClampNeg) (S.2 36 (S.2 53 t).toNatClampNeg) (S.2 37 (S.2 53 t).toNatClampNeg) (S.2 38 (S.2 53 t).toNatClampNeg) (S.2 39 (S.2 53 t).toNatClampNeg) (S.2 42 (S.2 53 t).toNatClampNeg) ∧ ∀ j, j ≠ nr → rowAt (y_tb1 t S).2 j (S.2 17 j) (S.2 18 j) (S.2 19 j) (S.2 20 j) (S.2 21 j) (S.2 22 j) (S.2 23 j) (S.2 24 j) := by
  have h := yput_row (S := (S.1, y_con (S.2 53 t).toNatClampNeg (S.2 36 (S.2 53 t).toNatClampNeg).toNatClampNeg (S.2 35 (S.2 53 t).toNatClampNeg).toNatClampNeg (S.2 38 (S.2 53 t).toNatClampNeg).toNatClampNeg S.2)) (nr := nr) hr hn (w := 3) (t := nI t) (o := S.2 35 (S.2 53 t).toNatClampNeg) (k := S.2 36 (S.2 53 t).toNatClampNeg) (a := S.2 37 (S.2 53 t).toNatClampNeg) (b := S.2 38 (S.2 53 t).toNatClampNeg) (c := S.2 39 (S.2 53 t).toNatClampNeg) (u := S.2 42 (S.2 53 t).toNatClampNeg)
  dsimp only at h
  have e : ∀ f, f ≠ 53 → f ≠ 52 → (y_tb1 t S).2 f = (y_put 3 (nI t) (S.2 35 (S.2 53 t).toNatClampNeg) (S.2 36 (S.2 53 t).toNatClampNeg) (S.2 37 (S.2 53 t).toNatClampNeg) (S.2 38 (S.2 53 t).toNatClampNeg) (S.2 39 (S.2 53 t).toNatClampNeg) (S.2 42 (S.2 53 t).toNatClampNeg) (S.1, y_con (S.2 53 t).toNatClampNeg (S.2 36 (S.2 53 t).toNatClampNeg).toNatClampNeg (S.2 35 (S.2 53 t).toNatClampNeg).toNatClampNeg (S.2 38 (S.2 53 t).toNatClampNeg).toNatClampNeg S.2)).2 f := fun f h1 h2 => by
    unfold y_tb1
    dsimp only
    rw [up_n h2, up_n h1]
  unfold rowAt at h ⊢
  simp only [e _ (show 17 ≠ 53 by decide) (by decide), e _ (show 18 ≠ 53 by decide) (by decide), e _ (show 19 ≠ 53 by decide) (by decide), e _ (show 20 ≠ 53 by decide) (by decide), e _ (show 21 ≠ 53 by decide) (by decide), e _ (show 22 ≠ 53 by decide) (by decide), e _ (show 23 ≠ 53 by decide) (by decide), e _ (show 24 ≠ 53 by decide) (by decide)]
  refine ⟨h.1, fun j hj => ?_⟩
  have := h.2 j hj
  simp only [ycon_A (show 17 ≠ 9 by decide) (by decide) (by decide) (by decide), ycon_A (show 18 ≠ 9 by decide) (by decide) (by decide) (by decide), ycon_A (show 19 ≠ 9 by decide) (by decide) (by decide) (by decide), ycon_A (show 20 ≠ 9 by decide) (by decide) (by decide) (by decide), ycon_A (show 21 ≠ 9 by decide) (by decide) (by decide) (by decide), ycon_A (show 22 ≠ 9 by decide) (by decide) (by decide) (by decide), ycon_A (show 23 ≠ 9 by decide) (by decide) (by decide) (by decide), ycon_A (show 24 ≠ 9 by decide) (by decide) (by decide) (by decide)] at this
  exact this
theorem rw_of (h : ∀ j, j ≠ nr → rowAt A' j (A 17 j) (A 18 j) (A 19 j) (A 20 j) (A 21 j) (A 22 j) (A 23 j) (A 24 j)) : rw_eq nr A A' := fun j hj => h j (by omega)
theorem md_cg (h : rw_eq nr A A') {j : Nat} (hj : j ≤ nr) : md A' j = md A j := y_cw_cg j 0 (fun q _ h2 => (h q (by omega)).1)
end RJ
