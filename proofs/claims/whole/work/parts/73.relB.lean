/-! acts on one thing -/
section RB
variable {P P' P'' P1 : k_P} {S S' S'' S1 : m_S} {p x j : Nat} {s : Int32}
theorem i64_add (x y : Int32) : (x.toInt64 + y.toInt64).toInt32 = x + y := by
  rw [Int64.toInt32_add, Int32.toInt32_toInt64, Int32.toInt32_toInt64]
theorem i64_neg {i : Nat} (hi : i ≤ 2000000000) : (-nI i).toInt64 = -(nI i).toInt64 := Int32.toInt64_neg_of_ne (fun z => by
  have := congrArg Int32.toInt z
  rw [nI_toInt (by omega)] at this
  rw [show (-2147483648 : Int32).toInt = -2147483648 from by decide] at this
  omega)
theorem isIn_lt {a : Int32} {z : Nat} (hz : z ≤ 2000000000) : (y_isIn a 0 (nI z - 1) = true) = (0 ≤ a ∧ a < nI z) := by
  rw [y_isIn, Bool.and_eq_true, decide_eq_true_eq, decide_eq_true_eq]
  have e : (nI z - 1).toInt = (z : Int) - 1 := by
    by_cases h : z = 0
    · subst h; decide
    · rw [show nI z - 1 = nI (z - 1) from i_s1 (by omega), nI_toInt (by omega)]; omega
  apply propext
  rw [Int32.le_iff_toInt_le, Int32.le_iff_toInt_le, Int32.lt_iff_toInt_lt, e, nI_toInt (by omega)]
  omega
theorem y_sm_cg {f g : Nat → Int32} : ∀ {n b c : Nat} {v : Int32}, (∀ i, i < n → f (b + i) = g (c + i)) → y_sm f b n v = y_sm g c n v
  | 0, _, _, _, _ => rfl
  | n + 1, b, c, v, h => by
    simp only [y_sm]
    have h0 := h 0 (by omega)
    rw [Nat.add_zero, Nat.add_zero] at h0
    rw [h0]
    exact y_sm_cg (fun i hi => by have := h (i + 1) (by omega); rw [show b + 1 + i = b + (i + 1) by omega, show c + 1 + i = c + (i + 1) by omega]; exact this)
theorem op_ans {a a' : Int32} (h : op_R p x j s P S P' a S') : op_R p x j s P S (k_wr P' 100 p (if P'.1 101 p = 0 then a' else 0)) a' S' := by
  obtain ⟨h1, h2, h3, h4, h5, h6⟩ := h
  refine ⟨h1.wrp (by decide), h2, h3.cg (k_rn (by decide)) rfl rfl rfl rfl (fun _ _ => rfl), h4.cg (k_rn (by decide)) rfl rfl rfl rfl, (k_rn (by decide)).trans h5, fun z => ?_⟩
  rw [k_rs, if_pos (h5.trans z)]
theorem op_more (h : op_pre p x j s P1 S1) (f1 : fr_C p x P P1) (f2 : fr_M j S S1) (hs : s = 1 ∨ s = 6) {a : Int32} : op_R p x j s P S (k_add P1 x p a) a (y_more j a.toInt64 S1) := by
  have s4 : ¬ s = 4 := fun z => by subst z; revert hs; decide
  have s5 : ¬ s = 5 := fun z => by subst z; revert hs; decide
  have hv : P1.1 223 x = S1.2 9 j := (h.1.2.2 s4 s5).1
  have so : P1.1 220 x = s := h.2.2.2.2.1
  have sy : y_sort S1.1 S1.2 j = s := h.2.2.2.2.2.1
  have fz : P1.1 101 p = 0 := h.2.2.1
  unfold k_add y_more
  rw [so, sy]
  rcases hs with rfl | rfl
  · rw [if_pos rfl, if_pos rfl]
    refine op_val (P' := k_add2 P1 x p a) (v := P1.1 223 x + a) (h.body 3) f1.body f2.body s4 s5 ?_ ?_ ?_ ?_ ?_ ?_ (Or.inl rfl) ?_
    · exact fr_C.rf.wrv.wrp (by decide)
    · unfold k_add2; rw [k_rn (by decide), k_rs]
    · unfold k_add2; rw [k_rs]
    · unfold k_add2; rw [k_rn (by decide), k_rn (by decide), kb_1 (by decide)]; exact fz
    · unfold k_add2; rw [k_rn (by decide), k_rn (by decide)]
    · rfl
    · rw [yb_A (by decide), Int32.toInt32_toInt64, hv]
  · rw [if_neg (show ¬ (6 : Int32) = 1 by decide), if_pos (show (6 : Int32) = 6 from rfl), if_neg (show ¬ (6 : Int32) = 1 by decide), hv]
    by_cases c1 : (S1.2 9 j).toInt64 + a.toInt64 < 0
    · rw [if_pos c1, if_pos c1]
      exact op_find (h.body 4) f1.body f2.body (by decide)
    · rw [if_neg c1, if_neg c1]
      by_cases c2 : 1000000000 < (S1.2 9 j).toInt64 + a.toInt64
      · rw [if_pos c2, if_pos c2]
        exact op_find (h.body 4) f1.body f2.body (by decide)
      · rw [if_neg c2, if_neg c2]
        have e0 : (va_up (y_body 4 S1).1 25 0, (y_body 4 S1).2) = y_body 4 S1 := by rw [up_e ((yb_F (by decide)).trans h.2.2.2.1)]
        rw [e0]
        refine op_val (P' := k_add2 (k_body P1 p 4) x p a) (v := P1.1 223 x + a) ((h.body 4).body 3) f1.body.body f2.body.body s4 s5 ?_ ?_ ?_ ?_ ?_ ?_ (Or.inl rfl) ?_
        · exact fr_C.rf.wrv.wrp (by decide)
        · unfold k_add2; rw [k_rn (by decide), k_rs, kb_1 (by decide)]
        · unfold k_add2; rw [k_rs]
        · unfold k_add2; rw [k_rn (by decide), k_rn (by decide), kb_1 (by decide), kb_1 (by decide)]; exact fz
        · unfold k_add2; rw [k_rn (by decide), k_rn (by decide)]
        · rfl
        · rw [yb_A (by decide), yb_A (by decide), i64_add, hv]
theorem op_draw (h : op_pre p x j 6 P1 S1) (f1 : fr_C p x P P1) (f2 : fr_M j S S1) {i : Nat} (hi : i ≤ 1000) : op_R p x j 6 P S (k_draw P1 x p (nI i)) (nI i) (y_more j (-(nI i).toInt64) (y_body 20 S1)) := by
  unfold k_draw
  rw [← i64_neg (by omega)]
  exact op_ans (op_more (h.body 20) f1.body f2.body (Or.inr rfl))
theorem op_pay (h : op_pre p x j 6 P1 S1) (f1 : fr_C p x P P1) (f2 : fr_M j S S1) {a : Int32} : op_R p x j 6 P S (k_pay P1 x p a) a (y_more j a.toInt64 (y_body 19 S1)) := by
  unfold k_pay
  rw [if_pos h.2.2.2.2.1]
  exact op_more (h.body 19) f1.body f2.body (Or.inr rfl)
theorem op_by2 (h : op_pre p x j s P1 S1) (f1 : fr_C p x P P1) (f2 : fr_M j S S1) (s4 : ¬ s = 4) (s5 : ¬ s = 5) {a : Int32} : op_R p x j s P S (k_div2 P1 x p a) (y_by2 j a S1).1 (y_by2 j a S1).2 ∧ ((y_by2 j a S1).2.1 25 = 0 → (k_div2 P1 x p a).1 102 p = P1.1 223 x) ∧ (y_by2 j a S1).2.1 28 = S1.1 28 := by
  have hv : P1.1 223 x = S1.2 9 j := (h.1.2.2 s4 s5).1
  have fz : P1.1 101 p = 0 := h.2.2.1
  unfold k_div2 y_by2
  by_cases c : a = 0
  · rw [if_pos c, if_pos c]
    refine ⟨op_find (h.body 5) f1.body f2.body (by decide), fun z => ?_, ?_⟩
    · dsimp only at z
      rw [up_s] at z
      exact absurd z (by decide)
    · dsimp only
      rw [up_n (by decide), yb_F (by decide)]
  · rw [if_neg c, if_neg c]
    refine ⟨?_, fun z => ?_, ?_⟩
    · refine op_val (v := P1.1 223 x / a) (h.body 5) f1.body f2.body s4 s5 ?_ ?_ ?_ ?_ ?_ ?_ (Or.inr rfl) ?_
      · exact ((fr_C.rf.wrp (by decide)).wrv).wrp (by decide)
      · rw [k_rn (by decide), k_rs]
      · rw [k_rs, hv]
      · rw [k_rn (by decide), k_rn (by decide), k_rn (by decide), kb_1 (by decide)]; exact fz
      · rw [k_rn (by decide), k_rn (by decide), k_rn (by decide)]
      · rfl
      · rw [yb_A (by decide), hv]
    · rw [k_rn (by decide), k_rn (by decide), k_rs]
    · dsimp only
      rw [up_n (by decide), yb_F (by decide)]
theorem op_by (h : op_pre p x j s P1 S1) (f1 : fr_C p x P P1) (f2 : fr_M j S S1) (hs : s = 1 ∨ s = 6) {a : Int32} : op_R p x j s P S (k_div P1 x p a) (y_by j a S1).1 (y_by j a S1).2 ∧ ((y_by j a S1).2.1 25 = 0 → (k_div P1 x p a).1 102 p = P1.1 223 x) ∧ (y_by j a S1).2.1 28 = S1.1 28 := by
  have s4 : ¬ s = 4 := fun z => by subst z; revert hs; decide
  have s5 : ¬ s = 5 := fun z => by subst z; revert hs; decide
  unfold k_div y_by
  rw [h.2.2.2.2.1, h.2.2.2.2.2.1]
  rcases hs with rfl | rfl
  · rw [if_neg (by decide), if_neg (by decide)]
    exact op_by2 h f1 f2 s4 s5
  · rw [if_pos rfl, if_pos rfl]
    by_cases c : a < 0
    · rw [if_pos c, if_pos c]
      refine ⟨op_find (h.body 25) f1.body f2.body (by decide), fun z => ?_, ?_⟩
      · dsimp only at z
        rw [up_s] at z
        exact absurd z (by decide)
      · dsimp only
        rw [up_n (by decide), yb_F (by decide)]
    · rw [if_neg c, if_neg c]
      have e0 : (va_up (y_body 25 S1).1 25 0, (y_body 25 S1).2) = y_body 25 S1 := by rw [up_e ((yb_F (by decide)).trans h.2.2.2.1)]
      rw [e0]
      have := op_by2 (P := P) (S := S) (a := a) (h.body 25) f1.body f2.body s4 s5
      rw [kb_1 (by decide), yb_F (by decide)] at this
      exact this
theorem op_put (h : op_pre p x j s P1 S1) (f1 : fr_C p x P P1) (f2 : fr_M j S S1) (s4 : ¬ s = 4) (s5 : ¬ s = 5) (hb : S1.1 28 = S1.2 9 j) {a v : Int32} : op_R p x j s P S (k_wr (k_wr (k_body P1 p v) 100 p (P1.1 223 x)) 223 x a) (S1.1 28) ((y_body v S1).1, va_up (y_body v S1).2 9 (va_up (S1.2 9) j a)) := by
  have hv : P1.1 223 x = S1.2 9 j := (h.1.2.2 s4 s5).1
  have fz : P1.1 101 p = 0 := h.2.2.1
  refine op_val (v := a) (h.body v) f1.body f2.body s4 s5 ?_ ?_ ?_ ?_ ?_ ?_ (Or.inl rfl) ?_
  · exact (fr_C.rf.wrp (by decide)).wrv
  · rw [k_rs]
  · rw [k_rn (by decide), k_rs, hv, hb]
  · rw [k_rn (by decide), k_rn (by decide), kb_1 (by decide)]; exact fz
  · rw [k_rn (by decide), k_rn (by decide)]
  · rfl
  · rw [yb_A (by decide)]
theorem op_set (h : op_pre p x j 3 P1 S1) (f1 : fr_C p x P P1) (f2 : fr_M j S S1) {k i : Nat} (hk : k = 4 ∨ k = 5 ∨ k = 6) (hi : i < 32) : op_R p x j 3 P S (k_set P1 x p (nI k) (nI i)) (y_ofSet j k i S1).1 (y_ofSet j k i S1).2 := by
  have hv : P1.1 223 x = S1.2 9 j := (h.1.2.2 (by decide) (by decide)).1
  have fz : P1.1 101 p = 0 := h.2.2.1
  have et : k_thr P1 x (nI i) = k_b (S1.2 9 j) i := by
    unfold k_thr
    rw [hv]
    simp only [k_bne hi]
    cases k_b (S1.2 9 j) i <;> rfl
  have ey : ((S1.2 9 j >>> (nI i &&& 31)) &&& 1 = 1) = (k_b (S1.2 9 j) i = true) := by
    have := k_hasb (x := S1.2 9 j) hi
    unfold k_has at this
    rw [← this, decide_eq_true_eq]
  unfold k_set y_ofSet
  rw [et]
  simp only [ey]
  have vv : ∀ (P' : k_P) (v w a : Int32) (g : Nat → Int32), P' = k_wr (k_wr (k_body P1 p w) 223 x v) 100 p a → g = va_up (S1.2 9) j v → op_R p x j 3 P S P' a ((y_body w S1).1, va_up (y_body w S1).2 9 g) := fun P' v w a g e eg => by
    subst e
    refine op_val (v := v) (h.body w) f1.body f2.body (by decide) (by decide) ?_ ?_ ?_ ?_ ?_ ?_ (Or.inl rfl) ?_
    · exact fr_C.rf.wrv.wrp (by decide)
    · rw [k_rn (by decide), k_rs]
    · rw [k_rs]
    · rw [k_rn (by decide), k_rn (by decide), kb_1 (by decide)]; exact fz
    · rw [k_rn (by decide), k_rn (by decide)]
    · rfl
    · rw [yb_A (by decide)]; exact eg
  rcases hk with rfl | rfl | rfl
  · rw [if_pos (by decide), show nI (4 + 3) = 7 from by decide]
    cases hb : k_b (S1.2 9 j) i
    · simp only [if_true, if_false, Bool.false_eq_true]
      exact vv _ _ 7 1 _ rfl (by rw [hv])
    · simp only [if_true]
      exact vv _ _ 7 0 _ rfl (by rw [hv])
  · rw [if_neg (by decide), if_pos (by decide), show nI (5 + 3) = 8 from by decide]
    cases hb : k_b (S1.2 9 j) i
    · simp (decide := true) only [if_true, if_false]
      exact vv _ _ 8 0 _ rfl (by rw [hv])
    · simp (decide := true) only [if_true, if_false]
      exact vv _ _ 8 1 _ rfl (by rw [hv])
  · rw [if_neg (by decide), if_neg (by decide), show nI (6 + 3) = 9 from by decide]
    cases hb : k_b (S1.2 9 j) i
    · simp (decide := true) only [if_true, if_false]
      exact op_get (h.body 9) f1.body f2.body
    · simp (decide := true) only [if_true, if_false]
      exact op_get (h.body 9) f1.body f2.body
end RB
