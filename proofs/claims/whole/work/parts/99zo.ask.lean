/-! act: whether it may be asked -/
section TR
variable {U : k_U} {s n : Nat} {o k a b : Int32}
theorem tO_ok (hn : n ≤ 40) : (k_tO U s n o = none ∧ y_isIn o 0 (nI n - 1) = false) ∨ ∃ j, j < n ∧ o = nI j ∧ k_tO U s n o = some (k_th U s j) ∧ y_isIn o 0 (nI n - 1) = true := by
  rcases k_tO_cases (U := U) (s := s) (o := o) hn with e | ⟨j, rfl, hj, e⟩
  · refine Or.inl ⟨e, ?_⟩
    cases h : y_isIn o 0 (nI n - 1)
    · rfl
    · obtain ⟨j, hj, rfl⟩ := io_t (by omega) h
      rw [k_tO_s hj hn] at e
      cases e
  · refine Or.inr ⟨j, hj, rfl, e, in_tr (nI_pos' (by omega)) ?_⟩
    rw [i_s1 (by omega)]
    exact nI_le (by omega) (by omega)
theorem i01 : (y_isIn a 0 1) = (a == 0 || a == 1) := by
  cases h : y_isIn a 0 1
  · symm
    rw [Bool.or_eq_false_iff, beq_eq_false_iff_ne, beq_eq_false_iff_ne]
    refine ⟨fun e => ?_, fun e => ?_⟩ <;> (rw [e] at h; exact absurd h (by decide))
  · symm
    have : y_isIn a 0 (nI 2 - 1) = true := h
    obtain ⟨j, hj, rfl⟩ := io_t (by omega) this
    have : j = 0 ∨ j = 1 := by omega
    rcases this with rfl | rfl <;> decide
theorem i17 (hn : n ≤ 40) : (a == -1 || y_isIn a 0 (nI n - 1)) = (decide (-1 ≤ a) && decide (a < nI n)) := by
  by_cases e : a = -1
  · subst e
    have h1 : decide ((-1 : Int32) < nI n) = true := decide_eq_true (Int32.lt_of_lt_of_le (by decide) (nI_pos' (by omega)))
    rw [h1, show ((-1 : Int32) == -1) = true from by decide, show decide ((-1 : Int32) ≤ -1) = true from by decide, Bool.true_or]
    rfl
  · have e1 : (a == -1) = false := beq_eq_false_iff_ne.mpr e
    rw [e1, Bool.false_or]
    rcases tO_ok (U := (fun _ => none, fun _ => [], fun _ _ => none)) (s := 0) (o := a) hn with ⟨h, h2⟩ | ⟨j, hj, rfl, h, h2⟩
    · rw [h2]
      symm
      unfold k_tO at h
      by_cases c : 0 ≤ a ∧ a < nI n
      · rw [if_pos c] at h; cases h
      · by_cases c0 : 0 ≤ a
        · rw [decide_eq_false (fun z => c ⟨c0, z⟩), Bool.and_false]
        · have : ¬ -1 ≤ a := fun z => by
            rw [Int32.le_iff_toInt_le] at z c0
            have z1 : (-1 : Int32).toInt = -1 := by decide
            have z2 : (0 : Int32).toInt = 0 := by decide
            have : a.toInt = (-1 : Int32).toInt := by omega
            exact e (Int32.toInt_inj.mp this)
          rw [decide_eq_false this, Bool.false_and]
    · rw [h2]
      symm
      rw [decide_eq_true (Int32.le_trans (by decide) (nI_pos' (by omega))), decide_eq_true (nI_lt hj (by omega))]
      rfl
theorem good_ok (hn : n ≤ 40) : (y_isIn k 0 21 && y_good (nI n) o k a b) = (k_fits k a (nI n) && (if k = 19 then y_isIn b 0 (nI n - 1) && b != o else true)) := by
  unfold y_good k_fits
  by_cases h4 : k = 4 ∨ k = 5 ∨ k = 6
  · have hk : y_isIn k 0 21 = true ∧ ¬ k = 19 := by rcases h4 with rfl | rfl | rfl <;> decide
    rw [if_pos h4, if_pos h4, if_neg hk.2, hk.1, Bool.true_and, Bool.and_true]
  rw [if_neg h4, if_neg h4]
  by_cases h12 : k = 12 ∨ k = 13 ∨ k = 14
  · have hk : y_isIn k 0 21 = true ∧ ¬ k = 19 := by rcases h12 with rfl | rfl | rfl <;> decide
    rw [if_pos h12, if_pos h12, if_neg hk.2, hk.1, Bool.true_and, Bool.and_true]
  rw [if_neg h12, if_neg h12]
  by_cases h15 : k = 15 ∨ k = 16
  · have hk : y_isIn k 0 21 = true ∧ ¬ k = 19 := by rcases h15 with rfl | rfl <;> decide
    rw [if_pos h15, if_pos (show k = 15 ∨ k = 16 ∨ k = 19 from h15.elim Or.inl (fun z => Or.inr (Or.inl z))), if_neg hk.2, hk.1, Bool.true_and, Bool.and_true]
  rw [if_neg h15]
  by_cases h19 : k = 19
  · rw [if_pos h19, if_pos (Or.inr (Or.inr h19)), if_pos h19, h19, Bool.and_assoc, show y_isIn 19 0 21 = true from by decide, Bool.true_and]
  have n15 : ¬ (k = 15 ∨ k = 16 ∨ k = 19) := fun z => by
    rcases z with z | z | z
    · exact h15 (Or.inl z)
    · exact h15 (Or.inr z)
    · exact h19 z
  rw [if_neg h19, if_neg h19, if_neg n15, Bool.and_true]
  by_cases h21 : k = 21
  · rw [if_pos h21, if_pos h21, h21, i01, show y_isIn 21 0 21 = true from by decide, Bool.true_and]
  rw [if_neg h21, if_neg h21]
  by_cases h11 : k = 11
  · rw [if_pos h11, if_pos h11, h11, show y_isIn 11 0 21 = true from by decide, Bool.true_and]
  rw [if_neg h11, if_neg h11]
  by_cases h17 : k = 17
  · rw [if_pos h17, if_pos h17, h17, i17 hn, show y_isIn 17 0 21 = true from by decide, Bool.true_and]
  rw [if_neg h17, if_neg h17, Bool.and_true]
theorem i_inR {lo hi : Nat} {x : Int32} (hl : lo ≤ 100000) (hh : hi ≤ 100000) (h : y_isIn x (nI lo) (nI hi) = true) : ∃ j, lo ≤ j ∧ j ≤ hi ∧ x = nI j := by
  unfold y_isIn at h
  simp only [Bool.and_eq_true, decide_eq_true_eq] at h
  have h0 : y_isIn x 0 (nI (hi + 1) - 1) = true := in_tr (Int32.le_trans (nI_pos' (by omega)) h.1) (by rw [i_s1 (by omega), Nat.add_sub_cancel]; exact h.2)
  obtain ⟨j, hj, rfl⟩ := io_t (by omega) h0
  rw [i_le (by omega) (by omega), i_le (by omega) (by omega)] at h
  exact ⟨j, h.1, h.2, rfl⟩
theorem good_ar {o k : Nat} (hn : n ≤ 40) (ho : o < n) (hk : k < 22) (h : y_good (nI n) (nI o) (nI k) a b = true) : ar_R n o k a b := by
  have kk : ∀ m : Nat, m < 22 → (nI k = nI m) = (k = m) := fun m hm => i_eq (by omega) (by omega)
  have k4 : (nI k = 4) = (k = 4) := kk 4 (by omega)
  have k5 : (nI k = 5) = (k = 5) := kk 5 (by omega)
  have k6 : (nI k = 6) = (k = 6) := kk 6 (by omega)
  have k12 : (nI k = 12) = (k = 12) := kk 12 (by omega)
  have k13 : (nI k = 13) = (k = 13) := kk 13 (by omega)
  have k14 : (nI k = 14) = (k = 14) := kk 14 (by omega)
  have k15 : (nI k = 15) = (k = 15) := kk 15 (by omega)
  have k16 : (nI k = 16) = (k = 16) := kk 16 (by omega)
  have k19 : (nI k = 19) = (k = 19) := kk 19 (by omega)
  have k21 : (nI k = 21) = (k = 21) := kk 21 (by omega)
  have k11 : (nI k = 11) = (k = 11) := kk 11 (by omega)
  have k17 : (nI k = 17) = (k = 17) := kk 17 (by omega)
  unfold y_good at h
  simp only [k4, k5, k6, k12, k13, k14, k15, k16, k19, k21, k11, k17] at h
  clear k4 k5 k6 k12 k13 k14 k15 k16 k19 k21 k11 k17 kk
  refine ⟨fun z1 z2 => ?_, fun z1 z2 => ?_, fun z => ?_, fun z => ?_, fun z => ?_⟩
  · rw [if_pos (by omega)] at h
    obtain ⟨j, _, j2, j3⟩ := i_inR (lo := 0) (hi := 31) (by omega) (by omega) h
    exact ⟨j, by omega, j3⟩
  · rw [if_neg (by omega), if_pos (by omega)] at h
    obtain ⟨j, _, j2, j3⟩ := i_inR (lo := 0) (hi := 7) (by omega) (by omega) h
    exact ⟨j, by omega, j3⟩
  · rw [if_neg (by omega), if_neg (by omega)] at h
    have h' : y_isIn a 0 1000 = true := by
      by_cases c : k = 15 ∨ k = 16
      · rw [if_pos c] at h; exact h
      · rw [if_neg c, if_pos (by omega), Bool.and_eq_true, Bool.and_eq_true] at h; exact h.1.1
    obtain ⟨j, _, j2, j3⟩ := i_inR (lo := 0) (hi := 1000) (by omega) (by omega) h'
    exact ⟨j, by omega, j3⟩
  · rw [if_neg (by omega), if_neg (by omega), if_neg (by omega), if_neg (by omega), if_neg (by omega), if_neg (by omega), if_pos z, Bool.or_eq_true, beq_iff_eq] at h
    rcases h with h | h
    · exact Or.inl h
    · obtain ⟨j, hj, e⟩ := io_t (by omega) h
      exact Or.inr ⟨j, hj, e⟩
  · rw [if_neg (by omega), if_neg (by omega), if_neg (by omega), if_pos z, Bool.and_eq_true, Bool.and_eq_true, bne_iff_ne] at h
    obtain ⟨j, hj, e⟩ := io_t (by omega) h.1.2
    exact ⟨j, hj, fun y => h.2 (by rw [e, y]), e⟩
end TR
