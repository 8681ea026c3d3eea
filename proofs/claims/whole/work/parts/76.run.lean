/-! acts on one thing, all kinds; shelves -/
section RE
variable {P P' P'' P1 : k_P} {S S' S'' S1 : m_S} {p x j : Nat} {s : Int32}
def sv_R (k : Nat) (P' : k_P) (p : Nat) (a : Int32) (S' : m_S) : Prop := S'.1 25 = 0 → (k = 2 → P'.1 102 p = S'.1 28) ∧ (k = 3 ∨ k = 17 → a = S'.1 28) ∧ (k = 12 → S'.1 27 = P'.1 102 p)
theorem sv_no {k : Nat} {a : Int32} (h2 : k ≠ 2) (h3 : k ≠ 3) (h12 : k ≠ 12) (h17 : k ≠ 17) : sv_R k P' p a S' := fun _ => ⟨fun z => absurd z h2, fun z => by omega, fun z => absurd z h12⟩
/-- what a and b are by kind -/
def ar_R (n o k : Nat) (a b : Int32) : Prop := (4 ≤ k → k ≤ 6 → ∃ i, i < 32 ∧ a = nI i) ∧ (12 ≤ k → k ≤ 14 → ∃ i, i < 8 ∧ a = nI i) ∧ (k = 15 ∨ k = 16 ∨ k = 19 → ∃ i, i ≤ 1000 ∧ a = nI i) ∧ (k = 17 → a = -1 ∨ ∃ q, q < n ∧ a = nI q) ∧ (k = 19 → ∃ q, q < n ∧ q ≠ o ∧ b = nI q)
theorem op_run (h : op_pre p x j s P1 S1) (f1 : fr_C p x P P1) (f2 : fr_M j S S1) {k : Nat} {a b : Int32} (hk : k < 22) (n18 : k ≠ 18) (n19 : k ≠ 19) (n20 : k ≠ 20) (hh : y_has s (nI k) = true) {n o : Nat} (har : ar_R n o k a b) (hb : S1.1 28 = S1.2 9 j) :
    op_R p x j s P S (k_run P1 x p (nI k) a b) (y_wA j k a b S1).1 (y_wA j k a b S1).2 ∧ sv_R k (k_run P1 x p (nI k) a b) p (y_wA j k a b S1).1 (y_wA j k a b S1).2 := by
  have so : P1.1 220 x = s := h.2.2.2.2.1
  have sy : y_sort S1.1 S1.2 j = s := h.2.2.2.2.2.1
  have hk' : k = 0 ∨ k = 1 ∨ k = 2 ∨ k = 3 ∨ k = 4 ∨ k = 5 ∨ k = 6 ∨ k = 7 ∨ k = 8 ∨ k = 9 ∨ k = 10 ∨ k = 11 ∨ k = 12 ∨ k = 13 ∨ k = 14 ∨ k = 15 ∨ k = 16 ∨ k = 17 ∨ k = 21 := by omega
  have ss : ∀ m : Nat, m < 22 → nI k = nI m → k = m := fun m hm e => by rw [i_eq (by omega) (by omega)] at e; exact e
  rcases hk' with rfl | rfl | rfl | rfl | rfl | rfl | rfl | rfl | rfl | rfl | rfl | rfl | rfl | rfl | rfl | rfl | rfl | rfl | rfl
  · refine ⟨?_, sv_no (by decide) (by decide) (by decide) (by decide)⟩
    have s4 : ¬ s = 4 := fun z => by subst z; revert hh; decide
    have s5 : ¬ s = 5 := fun z => by subst z; revert hh; decide
    rw [show k_run P1 x p (nI 0) a b = k_wr (k_body P1 p (if P1.1 220 x = 7 then 2 else 1)) 100 p (P1.1 223 x) from if_pos (by decide), show y_wA j 0 a b S1 = (S1.2 9 j, y_body (if y_sort S1.1 S1.2 j = 7 then 2 else 1) S1) from if_pos rfl, so, sy, (h.1.2.2 s4 s5).1]
    exact op_get (h.body _) f1.body f2.body
  · refine ⟨?_, sv_no (by decide) (by decide) (by decide) (by decide)⟩
    have s1 : s = 1 ∨ s = 6 := by rw [show nI 1 = 1 from rfl, yh_1] at hh; simpa using hh
    have e : k_run P1 x p (nI 1) a b = k_add P1 x p a := by simp (decide := true) only [k_run, if_true, if_false]
    rw [e]
    exact op_more h f1 f2 s1
  · have s1 : s = 1 ∨ s = 6 := by rw [show nI 2 = 2 from rfl, yh_2] at hh; simpa using hh
    have s4 : ¬ s = 4 := fun z => by subst z; revert hh; decide
    have s5 : ¬ s = 5 := fun z => by subst z; revert hh; decide
    have e : k_run P1 x p (nI 2) a b = k_div P1 x p a := by simp (decide := true) only [k_run, if_true, if_false]
    have o := op_by (P := P) (S := S) (a := a) h f1 f2 s1
    rw [e]
    refine ⟨o.1, fun z => ⟨fun _ => ?_, fun z => by omega, fun z => by omega⟩⟩
    exact (o.2.1 z).trans (((h.1.2.2 s4 s5).1.trans hb.symm).trans o.2.2.symm)
  · have s4 : ¬ s = 4 := fun z => by subst z; revert hh; decide
    have s5 : ¬ s = 5 := fun z => by subst z; revert hh; decide
    have e : k_run P1 x p (nI 3) a b = k_wr (k_wr (k_body P1 p 6) 100 p (P1.1 223 x)) 223 x a := by simp (decide := true) only [k_run, if_true, if_false]
    rw [e]
    refine ⟨op_put h f1 f2 s4 s5 hb, fun _ => ⟨fun z => by omega, fun _ => ?_, fun z => by omega⟩⟩
    exact (yb_F (by decide)).symm
  · refine ⟨?_, sv_no (by decide) (by decide) (by decide) (by decide)⟩
    obtain ⟨i, hi, rfl⟩ := har.1 (by omega) (by omega)
    have s3 : s = 3 := by rw [show nI 4 = 4 from rfl, yh_4] at hh; simpa using hh
    subst s3
    have e : k_run P1 x p (nI 4) (nI i) b = k_set P1 x p (nI 4) (nI i) := by simp (decide := true) only [k_run, k_many, so, if_true, if_false]
    have e2 : y_wA j 4 (nI i) b S1 = y_ofSet j 4 i S1 := by simp (decide := true) only [y_wA, if_true, if_false, i_cl (show i ≤ 2000000000 by omega)]
    rw [e, e2]
    exact op_set h f1 f2 (by omega) hi
  · refine ⟨?_, sv_no (by decide) (by decide) (by decide) (by decide)⟩
    obtain ⟨i, hi, rfl⟩ := har.1 (by omega) (by omega)
    have s3 : s = 3 := by rw [show nI 5 = 5 from rfl, yh_5] at hh; simpa using hh
    subst s3
    have e : k_run P1 x p (nI 5) (nI i) b = k_set P1 x p (nI 5) (nI i) := by simp (decide := true) only [k_run, k_many, so, if_true, if_false]
    have e2 : y_wA j 5 (nI i) b S1 = y_ofSet j 5 i S1 := by simp (decide := true) only [y_wA, if_true, if_false, i_cl (show i ≤ 2000000000 by omega)]
    rw [e, e2]
    exact op_set h f1 f2 (by omega) hi
  · refine ⟨?_, sv_no (by decide) (by decide) (by decide) (by decide)⟩
    obtain ⟨i, hi, rfl⟩ := har.1 (by omega) (by omega)
    have s3 : s = 3 := by rw [show nI 6 = 6 from rfl, yh_6] at hh; simpa using hh
    subst s3
    have e : k_run P1 x p (nI 6) (nI i) b = k_set P1 x p (nI 6) (nI i) := by simp (decide := true) only [k_run, k_many, so, if_true, if_false]
    have e2 : y_wA j 6 (nI i) b S1 = y_ofSet j 6 i S1 := by simp (decide := true) only [y_wA, if_true, if_false, i_cl (show i ≤ 2000000000 by omega)]
    rw [e, e2]
    exact op_set h f1 f2 (by omega) hi
  · refine ⟨?_, sv_no (by decide) (by decide) (by decide) (by decide)⟩
    have s345 : s = 3 ∨ s = 4 ∨ s = 5 := by rw [show nI 7 = 7 from rfl, yh_7] at hh; simpa [or_assoc] using hh
    have e : k_run P1 x p (nI 7) a b = k_wr (k_body P1 p (if s = 3 then 11 else 10)) 100 p (if s = 4 then P1.1 223 x else k_pop (P1.1 223 x)) := by simp (decide := true) only [k_run, so, if_true, if_false]
    have e2 : y_wA j 7 a b S1 = ((if s = 4 then S1.2 10 j else if s = 3 then y_pop 32 (S1.2 9 j) 0 else y_pop 32 (S1.2 11 j) 0), y_body (if s = 3 then 11 else 10) S1) := by simp (decide := true) only [y_wA, sy, if_true, if_false]
    rw [e, e2]
    have ev : (if s = 4 then P1.1 223 x else k_pop (P1.1 223 x)) = (if s = 4 then S1.2 10 j else if s = 3 then y_pop 32 (S1.2 9 j) 0 else y_pop 32 (S1.2 11 j) 0) := by
      rcases s345 with rfl | rfl | rfl
      · rw [if_neg (by decide), if_neg (by decide), if_pos rfl, k_pop_eq, (h.1.2.2 (by decide) (by decide)).1]
      · obtain ⟨z, _, e1, e2, _⟩ := h.1.1 rfl
        rw [if_pos rfl, if_pos rfl, e1, e2]
      · rw [if_neg (by decide), if_neg (by decide), if_neg (by decide), k_pop_eq, (h.1.2.1 rfl).1]
    rw [ev]
    exact op_get (h.body _) f1.body f2.body
  · refine ⟨?_, sv_no (by decide) (by decide) (by decide) (by decide)⟩
    have s3 : s = 4 := by rw [show nI 8 = 8 from rfl, yh_8] at hh; simpa using hh
    subst s3
    have e : k_run P1 x p (nI 8) a b = k_que P1 x p (P1.1 223 x).toNatClampNeg (nI 8) a := by simp (decide := true) only [k_run, k_many, so, if_true, if_false]
    have e2 : y_wA j 8 a b S1 = y_ofQ j 8 a S1 := by simp (decide := true) only [y_wA, if_true, if_false]
    rw [e, e2]
    exact op_que h f1 f2 (by omega)
  · refine ⟨?_, sv_no (by decide) (by decide) (by decide) (by decide)⟩
    have s3 : s = 4 := by rw [show nI 9 = 9 from rfl, yh_9] at hh; simpa using hh
    subst s3
    have e : k_run P1 x p (nI 9) a b = k_que P1 x p (P1.1 223 x).toNatClampNeg (nI 9) a := by simp (decide := true) only [k_run, k_many, so, if_true, if_false]
    have e2 : y_wA j 9 a b S1 = y_ofQ j 9 a S1 := by simp (decide := true) only [y_wA, if_true, if_false]
    rw [e, e2]
    exact op_que h f1 f2 (by omega)
  · refine ⟨?_, sv_no (by decide) (by decide) (by decide) (by decide)⟩
    have s3 : s = 4 := by rw [show nI 10 = 10 from rfl, yh_10] at hh; simpa using hh
    subst s3
    have e : k_run P1 x p (nI 10) a b = k_que P1 x p (P1.1 223 x).toNatClampNeg (nI 10) a := by simp (decide := true) only [k_run, k_many, so, if_true, if_false]
    have e2 : y_wA j 10 a b S1 = y_ofQ j 10 a S1 := by simp (decide := true) only [y_wA, if_true, if_false]
    rw [e, e2]
    exact op_que h f1 f2 (by omega)
  · refine ⟨?_, sv_no (by decide) (by decide) (by decide) (by decide)⟩
    have s3 : s = 4 := by rw [show nI 11 = 11 from rfl, yh_11] at hh; simpa using hh
    subst s3
    have e : k_run P1 x p (nI 11) a b = k_que P1 x p (P1.1 223 x).toNatClampNeg (nI 11) a := by simp (decide := true) only [k_run, k_many, so, if_true, if_false]
    have e2 : y_wA j 11 a b S1 = y_ofQ j 11 a S1 := by simp (decide := true) only [y_wA, if_true, if_false]
    rw [e, e2]
    exact op_que h f1 f2 (by omega)
  · obtain ⟨i, hi, rfl⟩ := har.2.1 (by omega) (by omega)
    have s3 : s = 5 := by rw [show nI 12 = 12 from rfl, yh_12] at hh; simpa using hh
    subst s3
    have e : k_run P1 x p (nI 12) (nI i) b = k_map P1 x p i (nI 12) b := by simp (decide := true) only [k_run, k_many, so, if_true, if_false, i_cl (show i ≤ 2000000000 by omega)]
    have e2 : y_wA j 12 (nI i) b S1 = y_ofMap j 12 i b S1 := by simp (decide := true) only [y_wA, if_true, if_false, i_cl (show i ≤ 2000000000 by omega)]
    rw [e, e2]
    have o := op_map (P := P) (S := S) (k := 12) (b := b) h f1 f2 (by omega) hi
    exact ⟨o.1, fun _ => ⟨fun z => by omega, fun z => by omega, fun z => (o.2 z).2⟩⟩
  · refine ⟨?_, sv_no (by decide) (by decide) (by decide) (by decide)⟩
    obtain ⟨i, hi, rfl⟩ := har.2.1 (by omega) (by omega)
    have s3 : s = 5 := by rw [show nI 13 = 13 from rfl, yh_13] at hh; simpa using hh
    subst s3
    have e : k_run P1 x p (nI 13) (nI i) b = k_map P1 x p i (nI 13) b := by simp (decide := true) only [k_run, k_many, so, if_true, if_false, i_cl (show i ≤ 2000000000 by omega)]
    have e2 : y_wA j 13 (nI i) b S1 = y_ofMap j 13 i b S1 := by simp (decide := true) only [y_wA, if_true, if_false, i_cl (show i ≤ 2000000000 by omega)]
    rw [e, e2]
    exact (op_map (P := P) (S := S) (k := 13) (b := b) h f1 f2 (by omega) hi).1
  · refine ⟨?_, sv_no (by decide) (by decide) (by decide) (by decide)⟩
    obtain ⟨i, hi, rfl⟩ := har.2.1 (by omega) (by omega)
    have s3 : s = 5 := by rw [show nI 14 = 14 from rfl, yh_14] at hh; simpa using hh
    subst s3
    have e : k_run P1 x p (nI 14) (nI i) b = k_map P1 x p i (nI 14) b := by simp (decide := true) only [k_run, k_many, so, if_true, if_false, i_cl (show i ≤ 2000000000 by omega)]
    have e2 : y_wA j 14 (nI i) b S1 = y_ofMap j 14 i b S1 := by simp (decide := true) only [y_wA, if_true, if_false, i_cl (show i ≤ 2000000000 by omega)]
    rw [e, e2]
    exact (op_map (P := P) (S := S) (k := 14) (b := b) h f1 f2 (by omega) hi).1
  · refine ⟨?_, sv_no (by decide) (by decide) (by decide) (by decide)⟩
    have s3 : s = 6 := by rw [show nI 15 = 15 from rfl, yh_15] at hh; simpa using hh
    subst s3
    have e : k_run P1 x p (nI 15) a b = k_pay P1 x p a := by simp (decide := true) only [k_run, if_true, if_false]
    have e2 : y_wA j 15 a b S1 = (a, y_more j a.toInt64 (y_body 19 S1)) := by simp (decide := true) only [y_wA, if_true, if_false]
    rw [e, e2]
    exact op_pay h f1 f2
  · refine ⟨?_, sv_no (by decide) (by decide) (by decide) (by decide)⟩
    obtain ⟨i, hi, rfl⟩ := har.2.2.1 (by omega)
    have s3 : s = 6 := by rw [show nI 16 = 16 from rfl, yh_16] at hh; simpa using hh
    subst s3
    have e : k_run P1 x p (nI 16) (nI i) b = k_draw P1 x p (nI i) := by simp (decide := true) only [k_run, if_true, if_false]
    have e2 : y_wA j 16 (nI i) b S1 = (nI i, y_more j (-(nI i).toInt64) (y_body 20 S1)) := by simp (decide := true) only [y_wA, if_true, if_false]
    rw [e, e2]
    exact op_draw h f1 f2 hi
  · have s4 : ¬ s = 4 := fun z => by subst z; revert hh; decide
    have s5 : ¬ s = 5 := fun z => by subst z; revert hh; decide
    have e : k_run P1 x p (nI 17) a b = k_wr (k_wr (k_body P1 p 21) 100 p (P1.1 223 x)) 223 x a := by simp (decide := true) only [k_run, if_true, if_false]
    have e2 : y_wA j 17 a b S1 = (S1.1 28, (y_body 21 S1).1, va_up (y_body 21 S1).2 9 (va_up (S1.2 9) j a)) := by simp (decide := true) only [y_wA, if_true, if_false]
    rw [e, e2]
    refine ⟨op_put h f1 f2 s4 s5 hb, fun _ => ⟨fun z => by omega, fun _ => ?_, fun z => by omega⟩⟩
    exact (yb_F (by decide)).symm
  · refine ⟨?_, sv_no (by decide) (by decide) (by decide) (by decide)⟩
    have e : k_run P1 x p (nI 21) a b = k_wr P1 100 p a := by simp (decide := true) only [k_run, if_true, if_false]
    have e2 : y_wA j 21 a b S1 = (a, S1) := by simp (decide := true) only [y_wA, if_true, if_false]
    rw [e, e2]
    exact op_get h f1 f2
end RE
