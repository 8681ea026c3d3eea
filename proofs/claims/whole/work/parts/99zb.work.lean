/-! what an act does to sizes and to what is there -/
section TE
variable {S : m_S} {x k : Nat} {a b : Int32}
theorem sm_A {x f : Nat} (h : f ≠ 31) : ∀ {n o : Nat} {s : Int32} {S : m_S}, (y_sumR x o n s S).2.2 f = S.2 f
  | 0, _, _, _ => rfl
  | n + 1, o, s, S => by
    rw [y_sumR]
    split
    · rw [sm_A h, yb_A h]
    · exact sm_A h
theorem sm_F {x f : Nat} (h : f ≠ 30) : ∀ {n o : Nat} {s : Int32} {S : m_S}, (y_sumR x o n s S).2.1 f = S.1 f
  | 0, _, _, _ => rfl
  | n + 1, o, s, S => by
    rw [y_sumR]
    split
    · rw [sm_F h, yb_F h]
    · exact sm_F h
theorem bp_A {f : Nat} (h : f ≠ 31) (h2 : f ≠ 9) : (y_bump x a S).2 f = S.2 f := by
  unfold y_bump
  split
  · exact yb_A h
  · split
    · rw [ym_A h h2]; exact yb_A h
    · exact yb_A h
theorem bp_F {f : Nat} (h : f ≠ 30) (h2 : f ≠ 25) (h3 : f ≠ 26) : (y_bump x a S).1 f = S.1 f := by
  unfold y_bump
  split
  · dsimp only; rw [up_n h2, up_n h3, yb_F h]
  · split
    · rw [ym_F h h2]; dsimp only; rw [up_n h3, yb_F h]
    · dsimp only; rw [up_n h2, up_n h3, yb_F h]
theorem mo_A {f : Nat} {b : Nat} (h : f ≠ 31) (h2 : f ≠ 9) : (y_move x a b S).2 f = S.2 f := by
  unfold y_move
  dsimp only
  have e : (y_more x (-a.toInt64) (y_body 20 (y_body 23 S))).2 f = S.2 f := by rw [ym_A h h2, yb_A h, yb_A h]
  generalize y_more x (-a.toInt64) (y_body 20 (y_body 23 S)) = S2 at e
  by_cases c1 : S2.1 25 = 0
  · rw [if_pos c1]
    have e3 : (if S2.2 4 b = 6 then y_more (x - x % 40 + b) a.toInt64 (y_body 19 S2) else (va_up S2.1 25 2, S2.2)).2 f = S.2 f := by
      split
      · rw [ym_A h h2, yb_A h]; exact e
      · exact e
    generalize (if S2.2 4 b = 6 then y_more (x - x % 40 + b) a.toInt64 (y_body 19 S2) else (va_up S2.1 25 2, S2.2)) = S3 at e3
    split
    · exact e3
    · dsimp only; rw [up_n h2]; exact e3
  · rw [if_neg c1]; exact e
theorem mo_F {f : Nat} {b : Nat} (h : f ≠ 30) (h2 : f ≠ 25) : (y_move x a b S).1 f = S.1 f := by
  unfold y_move
  dsimp only
  have e : (y_more x (-a.toInt64) (y_body 20 (y_body 23 S))).1 f = S.1 f := by rw [ym_F h h2, yb_F h, yb_F h]
  generalize y_more x (-a.toInt64) (y_body 20 (y_body 23 S)) = S2 at e
  by_cases c1 : S2.1 25 = 0
  · rw [if_pos c1]
    have e3 : (if S2.2 4 b = 6 then y_more (x - x % 40 + b) a.toInt64 (y_body 19 S2) else (va_up S2.1 25 2, S2.2)).1 f = S.1 f := by
      split
      · rw [ym_F h h2, yb_F h]; exact e
      · dsimp only; rw [up_n h2]; exact e
    generalize (if S2.2 4 b = 6 then y_more (x - x % 40 + b) a.toInt64 (y_body 19 S2) else (va_up S2.1 25 2, S2.2)) = S3 at e3
    split
    · exact e3
    · exact e3
  · rw [if_neg c1]; exact e
theorem mo_6 {b : Nat} (hf : (y_move x a b S).1 25 = 0) : S.2 4 b = 6 := by
  unfold y_move at hf
  dsimp only at hf
  have e : (y_more x (-a.toInt64) (y_body 20 (y_body 23 S))).2 4 = S.2 4 := by rw [ym_A (by decide) (by decide), yb_A (by decide), yb_A (by decide)]
  generalize y_more x (-a.toInt64) (y_body 20 (y_body 23 S)) = S2 at e hf
  by_cases c1 : S2.1 25 = 0
  · rw [if_pos c1] at hf
    by_cases c2 : S2.2 4 b = 6
    · rw [← e]; exact c2
    · rw [if_neg c2] at hf
      dsimp only at hf
      rw [if_neg (show ¬ va_up S2.1 25 2 25 = 0 by rw [up_s]; decide)] at hf
      dsimp only at hf
      rw [up_s] at hf
      exact absurd hf (by decide)
  · rw [if_neg c1] at hf; exact absurd hf c1
theorem bp_1 (hf : (y_bump x a S).1 25 = 0) : y_has (S.2 4 (S.2 9 x).toNatClampNeg) 1 = true := by
  unfold y_bump at hf
  by_cases c1 : S.2 9 x = -1
  · rw [if_pos c1] at hf
    dsimp only at hf
    rw [up_s] at hf
    exact absurd hf (by decide)
  · rw [if_neg c1] at hf
    by_cases c2 : y_has (S.2 4 (S.2 9 x).toNatClampNeg) 1 = true
    · exact c2
    · rw [if_neg c2] at hf
      dsimp only at hf
      rw [up_s] at hf
      exact absurd hf (by decide)
/-- kinds that leave sizes and what is there alone -/
theorem wA_q (hk : k < 22) (n8 : k ≠ 8) (n9 : k ≠ 9) (n12 : k ≠ 12) (n13 : k ≠ 13) (n14 : k ≠ 14) : (y_wA x k a b S).2.2 10 = S.2 10 ∧ (y_wA x k a b S).2.2 11 = S.2 11 ∧ (y_wA x k a b S).2.1 27 = S.1 27 := by
  obtain rfl | rfl | rfl | rfl | rfl | rfl | rfl | rfl | rfl | rfl | rfl | rfl | rfl | rfl | rfl | rfl | rfl : k = 0 ∨ k = 1 ∨ k = 2 ∨ k = 3 ∨ k = 4 ∨ k = 5 ∨ k = 6 ∨ k = 7 ∨ k = 10 ∨ k = 11 ∨ k = 15 ∨ k = 16 ∨ k = 17 ∨ k = 18 ∨ k = 19 ∨ k = 20 ∨ k = 21 := by omega
  all_goals simp (decide := true) only [y_wA, if_true, if_false, yb_A, yb_F, ym_A, ym_F, up_n, and_self, bp_A, bp_F, mo_A, mo_F, y_sum, sm_A, sm_F]
  · unfold y_by y_by2
    repeat' split
    all_goals simp (decide := true) only [yb_A, yb_F, up_n, and_self]
  · unfold y_ofSet
    repeat' split
    all_goals simp (decide := true) only [yb_A, yb_F, up_n, and_self]
  · unfold y_ofSet
    repeat' split
    all_goals simp (decide := true) only [yb_A, yb_F, up_n, and_self]
  · unfold y_ofSet
    repeat' split
    all_goals simp (decide := true) only [yb_A, yb_F, up_n, and_self]
  · unfold y_ofQ
    dsimp only
    simp (decide := true) only [if_false, if_true]
    repeat' split
    all_goals simp (decide := true) only [yb_A, yb_F, up_n, and_self]
  · unfold y_ofQ
    dsimp only
    simp (decide := true) only [if_false, if_true]
    repeat' split
    all_goals simp (decide := true) only [yb_A, yb_F, up_n, and_self]
theorem wA_8 (hf : S.1 25 = 0) : ((y_wA x 8 a b S).2.1 25 = 0 → ¬ S.2 10 x = 8 ∧ (y_wA x 8 a b S).2.2 10 = va_up (S.2 10) x (S.2 10 x + 1)) ∧ (¬ (y_wA x 8 a b S).2.1 25 = 0 → (y_wA x 8 a b S).2.2 10 = S.2 10) ∧ (y_wA x 8 a b S).2.2 11 = S.2 11 ∧ (y_wA x 8 a b S).2.1 27 = S.1 27 := by
  simp (decide := true) only [y_wA, if_true, if_false, y_ofQ]
  by_cases c : S.2 10 x = 8
  · simp (decide := true) only [c, if_true, yb_A, yb_F, up_n, up_s, and_self, if_false, not_true, not_false_iff, false_implies, true_implies]
  · simp (decide := true) only [c, if_true, yb_A, yb_F, up_n, up_s, and_self, if_false, not_true, not_false_iff, false_implies, true_implies, hf]
theorem wA_9 (hf : S.1 25 = 0) : ((y_wA x 9 a b S).2.1 25 = 0 → ¬ S.2 10 x = 0 ∧ (y_wA x 9 a b S).2.2 10 = va_up (S.2 10) x (S.2 10 x - 1)) ∧ (¬ (y_wA x 9 a b S).2.1 25 = 0 → (y_wA x 9 a b S).2.2 10 = S.2 10) ∧ (y_wA x 9 a b S).2.2 11 = S.2 11 ∧ (y_wA x 9 a b S).2.1 27 = S.1 27 := by
  simp (decide := true) only [y_wA, if_true, if_false, y_ofQ]
  by_cases c : S.2 10 x = 0
  · simp (decide := true) only [c, if_true, yb_A, yb_F, up_n, up_s, and_self, if_false, not_true, not_false_iff, false_implies, true_implies]
  · simp (decide := true) only [c, if_true, yb_A, yb_F, up_n, up_s, and_self, if_false, not_true, not_false_iff, false_implies, true_implies, hf]
/-- whether a bit is there -/
def bt (v : Int32) (q : Nat) : Bool := decide ((v >>> (nI q &&& 31)) &&& 1 = 1)
theorem wA_12 : (y_wA x 12 a b S).2.2 10 = S.2 10 ∧ (y_wA x 12 a b S).2.2 11 = va_up (S.2 11) x (S.2 11 x ||| ((1 : Int32) <<< (nI a.toNatClampNeg &&& 31))) ∧ (y_wA x 12 a b S).2.1 27 = b_v (bt (S.2 11 x) a.toNatClampNeg) := by
  simp (decide := true) only [y_wA, if_true, if_false, y_ofMap, yb_A, yb_F, up_n, up_s, and_self, true_and]
  rfl
theorem wA_13 : (y_wA x 13 a b S).2.2 10 = S.2 10 ∧ (y_wA x 13 a b S).2.1 27 = b_v (bt (S.2 11 x) a.toNatClampNeg) ∧ ((y_wA x 13 a b S).2.1 25 = 0 → bt (S.2 11 x) a.toNatClampNeg = true ∧ (y_wA x 13 a b S).2.2 11 = va_up (S.2 11) x (S.2 11 x &&& (((1 : Int32) <<< (nI a.toNatClampNeg &&& 31)) ^^^ (-1)))) ∧ (¬ (y_wA x 13 a b S).2.1 25 = 0 → (y_wA x 13 a b S).2.2 11 = S.2 11) := by
  simp (decide := true) only [y_wA, if_true, if_false, y_ofMap]
  unfold bt
  by_cases c : (S.2 11 x >>> (nI a.toNatClampNeg &&& 31)) &&& 1 = 1
  · simp (decide := true) only [c, decide_true, if_true, yb_A, yb_F, up_n, up_s, and_self, true_and, not_true, false_implies, true_implies]
  · simp (decide := true) only [c, decide_false, if_false, Bool.false_eq_true, yb_A, yb_F, up_n, up_s, and_self, true_and, not_true, false_implies, true_implies]
theorem wA_14 : (y_wA x 14 a b S).2.2 10 = S.2 10 ∧ (y_wA x 14 a b S).2.2 11 = S.2 11 ∧ (y_wA x 14 a b S).2.1 27 = b_v (bt (S.2 11 x) a.toNatClampNeg) := by
  simp (decide := true) only [y_wA, if_true, if_false, y_ofMap]
  unfold bt
  by_cases c : (S.2 11 x >>> (nI a.toNatClampNeg &&& 31)) &&& 1 = 1
  · simp (decide := true) only [c, decide_true, if_true, yb_A, yb_F, up_n, up_s, and_self]
  · simp (decide := true) only [c, decide_false, if_false, Bool.false_eq_true, yb_A, yb_F, up_n, up_s, and_self]
/-- all that is wanted of an act -/
def wk_R (x k : Nat) (a b : Int32) (S : m_S) (W : Int32 × m_S) : Prop :=
  (W.2.1 27 = S.1 27 ∨ W.2.1 27 = 0 ∨ W.2.1 27 = 1) ∧ (W.2.1 25 = 0 → y_has (y_sort S.1 S.2 x) (nI k) = true) ∧ (k = 17 → W.2.1 25 = 0 → W.1 = S.2 9 x) ∧
  (k = 18 → W.2.1 25 = 0 → y_has (S.2 4 (S.2 9 x).toNatClampNeg) 1 = true) ∧ (k = 19 → W.2.1 25 = 0 → S.2 4 b.toNatClampNeg = 6) ∧
  ((W.2.2 10 = S.2 10 ∧ ¬ (W.2.1 25 = 0 ∧ (k = 8 ∨ k = 9))) ∨ (W.2.1 25 = 0 ∧ k = 8 ∧ ¬ S.2 10 x = 8 ∧ W.2.2 10 = va_up (S.2 10) x (S.2 10 x + 1)) ∨ (W.2.1 25 = 0 ∧ k = 9 ∧ ¬ S.2 10 x = 0 ∧ W.2.2 10 = va_up (S.2 10) x (S.2 10 x - 1))) ∧
  ((W.2.2 11 = S.2 11 ∧ ¬ (W.2.1 25 = 0 ∧ (k = 12 ∨ k = 13))) ∨ (W.2.1 25 = 0 ∧ k = 12 ∧ W.2.2 11 = va_up (S.2 11) x (S.2 11 x ||| ((1 : Int32) <<< (nI a.toNatClampNeg &&& 31))) ∧ W.2.1 27 = b_v (bt (S.2 11 x) a.toNatClampNeg)) ∨ (W.2.1 25 = 0 ∧ k = 13 ∧ bt (S.2 11 x) a.toNatClampNeg = true ∧ W.2.2 11 = va_up (S.2 11) x (S.2 11 x &&& (((1 : Int32) <<< (nI a.toNatClampNeg &&& 31)) ^^^ (-1)))))
theorem b_v01 {v : Bool} : b_v v = 0 ∨ b_v v = 1 := by cases v <;> decide
theorem wk_ok (hk : k < 22) : wk_R x k a b S (y_work x k a b S) := by
  unfold y_work
  by_cases hh : y_has (y_sort S.1 S.2 x) (nI k) = true
  rotate_left
  · rw [if_neg hh]
    have f2 : ¬ (va_up (va_up (va_up S.1 25 0) 28 (S.2 9 x)) 25 2) 25 = 0 := by rw [up_s]; decide
    refine ⟨Or.inl ?_, fun z => absurd z f2, fun _ z => absurd z f2, fun _ z => absurd z f2, fun _ z => absurd z f2, Or.inl ⟨rfl, fun z => f2 z.1⟩, Or.inl ⟨rfl, fun z => f2 z.1⟩⟩
    dsimp only
    rw [up_n (by decide), up_n (by decide), up_n (by decide)]
  rw [if_pos hh]
  generalize hS0 : ((va_up (va_up S.1 25 0) 28 (S.2 9 x), S.2) : m_S) = S0
  have e2 : S0.2 = S.2 := by rw [← hS0]
  have ef : S0.1 25 = 0 := by rw [← hS0]; dsimp only; rw [up_n (by decide), up_s]
  have eb : S0.1 28 = S.2 9 x := by rw [← hS0]; dsimp only; rw [up_s]
  have eh : S0.1 27 = S.1 27 := by rw [← hS0]; dsimp only; rw [up_n (by decide), up_n (by decide)]
  unfold wk_R
  rw [← e2, ← eh]
  by_cases n8 : k = 8
  · subst n8
    obtain ⟨q1, q2, q3, q4⟩ := wA_8 (x := x) (a := a) (b := b) ef
    refine ⟨Or.inl q4, fun _ => by rw [e2]; exact hh, fun z => by omega, fun z => by omega, fun z => by omega, ?_, Or.inl ⟨q3, fun z => by omega⟩⟩
    by_cases c : (y_wA x 8 a b S0).2.1 25 = 0
    · exact Or.inr (Or.inl ⟨c, rfl, q1 c⟩)
    · exact Or.inl ⟨q2 c, fun z => c z.1⟩
  by_cases n9 : k = 9
  · subst n9
    obtain ⟨q1, q2, q3, q4⟩ := wA_9 (x := x) (a := a) (b := b) ef
    refine ⟨Or.inl q4, fun _ => by rw [e2]; exact hh, fun z => by omega, fun z => by omega, fun z => by omega, ?_, Or.inl ⟨q3, fun z => by omega⟩⟩
    by_cases c : (y_wA x 9 a b S0).2.1 25 = 0
    · exact Or.inr (Or.inr ⟨c, rfl, q1 c⟩)
    · exact Or.inl ⟨q2 c, fun z => c z.1⟩
  by_cases n12 : k = 12
  · subst n12
    obtain ⟨q1, q2, q3⟩ := wA_12 (S := S0) (x := x) (a := a) (b := b)
    refine ⟨Or.inr (by rw [q3]; exact b_v01), fun _ => by rw [e2]; exact hh, fun z => by omega, fun z => by omega, fun z => by omega, Or.inl ⟨q1, fun z => by omega⟩, Or.inr (Or.inl ⟨?_, rfl, q2, q3⟩)⟩
    simp (decide := true) only [y_wA, if_true, if_false, y_ofMap, yb_A, yb_F, up_n, up_s]
    exact ef
  by_cases n13 : k = 13
  · subst n13
    obtain ⟨q1, q2, q3, q4⟩ := wA_13 (S := S0) (x := x) (a := a) (b := b)
    refine ⟨Or.inr (by rw [q2]; exact b_v01), fun _ => by rw [e2]; exact hh, fun z => by omega, fun z => by omega, fun z => by omega, Or.inl ⟨q1, fun z => by omega⟩, ?_⟩
    by_cases c : (y_wA x 13 a b S0).2.1 25 = 0
    · exact Or.inr (Or.inr ⟨c, rfl, q3 c⟩)
    · exact Or.inl ⟨q4 c, fun z => c z.1⟩
  by_cases n14 : k = 14
  · subst n14
    obtain ⟨q1, q2, q3⟩ := wA_14 (S := S0) (x := x) (a := a) (b := b)
    exact ⟨Or.inr (by rw [q3]; exact b_v01), fun _ => by rw [e2]; exact hh, fun z => by omega, fun z => by omega, fun z => by omega, Or.inl ⟨q1, fun z => by omega⟩, Or.inl ⟨q2, fun z => by omega⟩⟩
  obtain ⟨q1, q2, q3⟩ := wA_q (S := S0) (x := x) (a := a) (b := b) hk n8 n9 n12 n13 n14
  refine ⟨Or.inl q3, fun _ => by rw [e2]; exact hh, fun z zf => ?_, fun z zf => ?_, fun z zf => ?_, Or.inl ⟨q1, fun z => by omega⟩, Or.inl ⟨q2, fun z => by omega⟩⟩
  · subst z
    rw [e2, ← eb]
    simp (decide := true) only [y_wA, if_true, if_false]
  · subst z
    rw [show y_wA x 18 a b S0 = (a, y_bump x a S0) by simp (decide := true) only [y_wA, if_true, if_false]] at zf
    exact bp_1 zf
  · subst z
    rw [show y_wA x 19 a b S0 = (a, y_move x a b.toNatClampNeg S0) by simp (decide := true) only [y_wA, if_true, if_false]] at zf
    exact mo_6 zf
end TE
