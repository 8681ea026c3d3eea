/-! tried: the small ones -/
section VN
variable {P P' : k_P} {S S' : m_S} {A : m_A} {t p i : Nat} {s f a f' a' b : Int32}
def oc (f a : Int32) : Int64 := (f.toInt64 <<< ((32 : Int32).toInt64 &&& 63)) ||| (a.toInt64 &&& 4294967295)
theorem oc_m : ∀ i, i < 64 → bl 4294967295 i = decide (i < 32) := by decide +kernel
theorem oc_s : (((32 : Int32).toInt64 &&& 63).toBitVec.smod 64).toNat = 32 := by decide +kernel
theorem oc_l {x : Int64} {i : Nat} (hi : i < 64) : bl (x <<< ((32 : Int32).toInt64 &&& 63)) i = (decide (32 ≤ i) && bl x (i - 32)) := by
  unfold bl
  show (x.toBitVec <<< (((32 : Int32).toInt64 &&& 63).toBitVec.smod 64)).getLsbD i = _
  rw [BitVec.shiftLeft_eq', oc_s, BitVec.getLsbD_shiftLeft, decide_eq_true hi, Bool.true_and]
  by_cases c : i < 32
  · rw [decide_eq_true c, decide_eq_false (show ¬ 32 ≤ i by omega)]; rfl
  · rw [decide_eq_false c, decide_eq_true (show 32 ≤ i by omega)]; rfl
theorem oc_x {x : Int32} {i : Nat} (hi : i < 32) : bl x.toInt64 i = k_b x i := by
  unfold bl k_b
  rw [Int32.toBitVec_toInt64, BitVec.getLsbD_signExtend, decide_eq_true (show i < 64 by omega), Bool.true_and, if_pos hi]
theorem oc_lo {i : Nat} (hi : i < 32) : bl (oc f a) i = k_b a i := by
  unfold oc
  rw [bl_or, bl_and, oc_l (by omega), oc_m i (by omega), decide_eq_false (show ¬ 32 ≤ i by omega), decide_eq_true hi, Bool.false_and, Bool.false_or, Bool.and_true, oc_x hi]
theorem oc_hi {i : Nat} (hi : i < 32) : bl (oc f a) (32 + i) = k_b f i := by
  unfold oc
  rw [bl_or, bl_and, oc_l (by omega), oc_m _ (by omega), decide_eq_true (show 32 ≤ 32 + i by omega), decide_eq_false (show ¬ 32 + i < 32 by omega), Bool.true_and, Bool.and_false, Bool.or_false, show 32 + i - 32 = i by omega, oc_x hi]
theorem oc_iff : oc f a = oc f' a' ↔ f = f' ∧ a = a' := by
  constructor
  · intro h
    exact ⟨k_bext (fun i hi => by rw [← oc_hi (a := a) hi, h, oc_hi hi]), k_bext (fun i hi => by rw [← oc_lo (f := f) hi, h, oc_lo hi])⟩
  · rintro ⟨rfl, rfl⟩; rfl
/-- who finds something answers nothing -/
theorem ans0 {k : Int32} (ha : P.1 100 p = 0) (hf : P.1 101 p = 0) : (k_run P t p k a b).1 101 p = 0 ∨ (k_run P t p k a b).1 100 p = 0 := by
  have add : ∀ (Q : k_P) (x : Int32), Q.1 100 p = 0 → Q.1 101 p = 0 → (k_add Q t p x).1 101 p = 0 ∨ (k_add Q t p x).1 100 p = 0 := fun Q x q1 q2 => by
    unfold k_add k_add2
    repeat' split
    all_goals simp (decide := true) only [k_rn, k_rs, kb_1, q1, q2, ne_eq, not_false_eq_true, true_or, or_true]
  have dv : ∀ (Q : k_P), Q.1 100 p = 0 → Q.1 101 p = 0 → (k_div2 Q t p a).1 101 p = 0 ∨ (k_div2 Q t p a).1 100 p = 0 := fun Q q1 q2 => by
    unfold k_div2
    repeat' split
    all_goals simp (decide := true) only [k_rn, k_rs, kb_1, q1, q2, ne_eq, not_false_eq_true, true_or, or_true]
  have bA : ∀ v, (k_body P p v).1 100 p = 0 := fun v => by rw [kb_1 (by decide)]; exact ha
  have bF : ∀ v, (k_body P p v).1 101 p = 0 := fun v => by rw [kb_1 (by decide)]; exact hf
  unfold k_run
  split
  · simp (decide := true) only [k_rn, kb_1, hf, ne_eq, not_false_eq_true, true_or]
  split
  · exact add P a ha hf
  split
  · unfold k_div
    split
    · split
      · simp (decide := true) only [k_rn, kb_1, ha, ne_eq, not_false_eq_true, or_true]
      · exact dv _ (bA _) (bF _)
    · exact dv _ ha hf
  split
  · simp (decide := true) only [k_rn, kb_1, hf, ne_eq, not_false_eq_true, true_or]
  split
  · simp (decide := true) only [k_rn, kb_1, hf, ne_eq, not_false_eq_true, true_or]
  split
  · unfold k_pay
    split
    · exact add _ _ (bA _) (bF _)
    · simp (decide := true) only [k_rn, ha, ne_eq, not_false_eq_true, or_true]
  split
  · unfold k_draw
    by_cases c : (k_add (k_body P p 20) t p (-a)).1 101 p = 0
    · left; rw [k_rn (by decide)]; exact c
    · right; rw [k_rs, if_neg c]
  split
  · simp (decide := true) only [k_rn, kb_1, hf, ne_eq, not_false_eq_true, true_or]
  split
  · simp (decide := true) only [k_rn, hf, ne_eq, not_false_eq_true, true_or]
  unfold k_many
  split
  · unfold k_set
    repeat' split
    all_goals simp (decide := true) only [k_rn, kb_1, hf, ne_eq, not_false_eq_true, true_or]
  split
  · unfold k_que k_first
    repeat' split
    all_goals simp (decide := true) only [k_rn, k_rs, k_a1, kb_1, ha, hf, ne_eq, not_false_eq_true, true_or, or_true]
  split
  · unfold k_map
    dsimp only
    repeat' split
    all_goals simp (decide := true) only [k_rn, k_rs, k_a1, kb_1, ha, hf, ne_eq, not_false_eq_true, true_or, or_true]
  · exact Or.inl hf
theorem clr_r {g : Nat → Int32} : ∀ (m k j : Nat), y_clr g k m j = if 960 + k ≤ j ∧ j < 960 + k + m then 0 else g j
  | 0, k, j => by rw [y_clr, if_neg (by omega)]
  | m + 1, k, j => by
    rw [y_clr, clr_r m (k + 1) j]
    by_cases c : j = 960 + k
    · subst c
      rw [if_neg (by omega), if_pos (by omega), up_s]
    · rw [up_n c]
      by_cases d : 960 + (k + 1) ≤ j ∧ j < 960 + (k + 1) + m
      · rw [if_pos d, if_pos (by omega)]
      · rw [if_neg d, if_neg (by omega)]
/-- what laying a small one leaves -/
theorem lay_A {g : Nat} (h : g ∉ [9, 10, 11, 12]) : (y_lay s i S).2 g = S.2 g := by
  unfold y_lay y_layB y_layA
  dsimp only
  repeat' split
  all_goals simp only [up_n (nmem h (show 9 ∈ [9, 10, 11, 12] by decide)), up_n (nmem h (show 10 ∈ [9, 10, 11, 12] by decide)), up_n (nmem h (show 11 ∈ [9, 10, 11, 12] by decide)), up_n (nmem h (show 12 ∈ [9, 10, 11, 12] by decide))]
theorem lay_x {x : Nat} (h : x ≠ 120) : (y_lay s i S).2 9 x = S.2 9 x ∧ (y_lay s i S).2 10 x = S.2 10 x ∧ (y_lay s i S).2 11 x = S.2 11 x := by
  unfold y_lay y_layB y_layA
  dsimp only
  repeat' split
  all_goals simp (decide := true) only [up_n, up_s, ne_eq, not_false_eq_true, h, and_self]
theorem lay_i {x : Nat} (h : x < 960 ∨ 968 ≤ x) : (y_lay s i S).2 12 x = S.2 12 x := by
  have e : y_clr (S.2 12) 0 8 x = S.2 12 x := by rw [clr_r, if_neg (by omega)]
  unfold y_lay y_layB y_layA
  dsimp only
  repeat' split
  all_goals simp (decide := true) only [up_n, up_s, ne_eq, not_false_eq_true, show ¬ x = 960 by omega, show ¬ x = 961 by omega, e]
theorem lay_v : (y_lay s i S).2 9 120 = (if s = 7 then -1 else if s = 4 ∨ s = 5 then 0 else nI i) ∧ (y_lay s i S).2 10 120 = (if s = 4 ∧ 0 < i then 1 else 0) ∧ (y_lay s i S).2 11 120 = (if s = 5 then ((if 0 < i % 3 then 1 else 0) ||| (if 0 < i / 3 then 2 else 0)) else 0) := by
  unfold y_lay y_layB y_layA
  dsimp only
  by_cases c4 : s = 4 ∧ 0 < i
  · rw [if_pos c4, if_neg (by rw [c4.1]; decide)]
    simp (decide := true) only [up_n, up_s, ne_eq, not_false_eq_true, if_pos c4, show ¬ s = 5 from by rw [c4.1]; decide, if_false, and_self]
  · rw [if_neg c4]
    by_cases c5 : s = 5
    · rw [if_pos c5]
      simp (decide := true) only [up_n, up_s, ne_eq, not_false_eq_true, if_pos c5, if_neg c4, and_self]
    · rw [if_neg c5]
      simp (decide := true) only [up_n, up_s, ne_eq, not_false_eq_true, if_neg c5, if_neg c4, and_self]
theorem lay_i4 (h : s = 4) (hi : 0 < i) : (y_lay s i S).2 12 960 = nI (i - 1) := by
  unfold y_lay y_layB y_layA
  dsimp only
  have c4 : s = 4 ∧ 0 < i := ⟨h, hi⟩
  have n5 : ¬ s = 5 := by rw [h]; decide
  rw [if_pos c4, if_neg n5]
  simp (decide := true) only [up_n, up_s, ne_eq, not_false_eq_true]
theorem lay_i5 (h : s = 5) : (y_lay s i S).2 12 960 = (if 0 < i % 3 then nI (i % 3 - 1) else 0) ∧ (y_lay s i S).2 12 961 = (if 0 < i / 3 then nI (i / 3 - 1) else 0) := by
  unfold y_lay y_layB y_layA
  dsimp only
  have n4 : ¬ (s = 4 ∧ 0 < i) := fun z => by rw [h] at z; exact absurd z.1 (by decide)
  rw [if_neg n4, if_pos h]
  simp (decide := true) only [up_n, up_s, ne_eq, not_false_eq_true, and_self]
theorem bit_3 : ∀ j, j < 8 → (k_b 0 j = true → False) ∧ (k_b 1 j = true → j = 0) ∧ (k_b 2 j = true → j = 1) ∧ (k_b 3 j = true → j = 0 ∨ j = 1) := by decide
/-- a small one, in the class and in the reference -/
theorem lay_vl (hs : P.1 220 t = s) (hi : i < 9) (h2 : s = 4 → i < 3) : R_vl (k_sml P t (nI i)) t (y_lay s i S).2 120 s := by
  obtain ⟨v1, v2, v3⟩ := lay_v (s := s) (i := i) (S := S)
  unfold k_sml
  rw [hs]
  refine ⟨fun c4 => ?_, fun c5 => ?_, fun c4 c5 => ?_⟩
  · rw [if_pos c4]
    have n5 : ¬ s = 5 := by rw [c4]; decide
    have n7 : ¬ s = 7 := by rw [c4]; decide
    rw [if_neg n7, if_pos (Or.inl c4)] at v1
    rw [if_neg n5] at v3
    by_cases c0 : i = 0
    · subst c0
      rw [if_neg (fun z => by omega)] at v2
      refine ⟨0, by omega, ?_, v2, v1, v3, fun j hj => by omega⟩
      rw [k_a1, k_rs, if_pos (show nI 0 = 0 from rfl)]; rfl
    · rw [if_pos ⟨c4, by omega⟩] at v2
      refine ⟨1, by omega, ?_, v2, v1, v3, fun j hj => ?_⟩
      · rw [k_a1, k_rs, if_neg (by rw [show (0 : Int32) = nI 0 from rfl, i_eq (by omega) (by omega)]; exact c0)]; rfl
      · have : j = 0 := by omega
        subst this
        rw [k_as, up_s]
        show _ = (y_lay s i S).2 12 960
        rw [lay_i4 c4 (by omega), i_s1 (by omega)]
  · have n4 : ¬ s = 4 := by rw [c5]; decide
    have n7 : ¬ s = 7 := by rw [c5]; decide
    rw [if_neg n4, if_pos c5]
    rw [if_neg n7, if_pos (Or.inr c5)] at v1
    rw [if_neg (fun z => n4 z.1)] at v2
    rw [if_pos c5] at v3
    obtain ⟨w0, w1⟩ := lay_i5 (s := s) (i := i) (S := S) c5
    have le0 : ∀ m : Nat, m < 9 → (nI m ≤ 0) = (m = 0) := fun m hm => by
      rw [show (0 : Int32) = nI 0 from rfl, i_le (by omega) (by omega)]
      exact propext ⟨fun z => by omega, fun z => by omega⟩
    rw [i_d3 hi, i_r3' hi]
    refine ⟨?_, v1, v2, fun j hj hb => ?_⟩
    · rw [k_a1, k_rs, v3]
      by_cases d1 : i % 3 = 0
      · have q1 : nI (i % 3) ≤ 0 := by rw [le0 _ (by omega)]; exact d1
        rw [if_pos q1, if_neg (show ¬ 0 < i % 3 by omega)]
        by_cases d2 : i / 3 = 0
        · have q2 : nI (i / 3) ≤ 0 := by rw [le0 _ (by omega)]; exact d2
          rw [if_pos q2, if_neg (show ¬ 0 < i / 3 by omega)]; decide
        · have q2 : ¬ nI (i / 3) ≤ 0 := by rw [le0 _ (by omega)]; exact d2
          rw [if_neg q2, if_pos (show 0 < i / 3 by omega)]; decide
      · have q1 : ¬ nI (i % 3) ≤ 0 := by rw [le0 _ (by omega)]; exact d1
        rw [if_neg q1, if_pos (show 0 < i % 3 by omega)]
        by_cases d2 : i / 3 = 0
        · have q2 : nI (i / 3) ≤ 0 := by rw [le0 _ (by omega)]; exact d2
          rw [if_pos q2, if_neg (show ¬ 0 < i / 3 by omega)]; decide
        · have q2 : ¬ nI (i / 3) ≤ 0 := by rw [le0 _ (by omega)]; exact d2
          rw [if_neg q2, if_pos (show 0 < i / 3 by omega)]; decide
    · rw [v3] at hb
      have key : (j = 0 ∧ 0 < i % 3) ∨ (j = 1 ∧ 0 < i / 3) := by
        by_cases d1 : 0 < i % 3
        · rw [if_pos d1] at hb
          by_cases d2 : 0 < i / 3
          · rw [if_pos d2] at hb
            rcases (bit_3 j hj).2.2.2 hb with z | z
            · exact Or.inl ⟨z, d1⟩
            · exact Or.inr ⟨z, d2⟩
          · rw [if_neg d2] at hb
            exact Or.inl ⟨(bit_3 j hj).2.1 hb, d1⟩
        · rw [if_neg d1] at hb
          by_cases d2 : 0 < i / 3
          · rw [if_pos d2] at hb
            exact Or.inr ⟨(bit_3 j hj).2.2.1 hb, d2⟩
          · rw [if_neg d2] at hb
            exact absurd hb (fun z => (bit_3 j hj).1 z)
      rw [k_as]
      rcases key with ⟨z, d⟩ | ⟨z, d⟩
      · subst z
        rw [up_n (by omega), up_s]
        show _ = (y_lay s i S).2 12 960
        rw [w0, if_pos d, i_s1 (by omega)]
      · subst z
        rw [up_s]
        show _ = (y_lay s i S).2 12 961
        rw [w1, if_pos d, i_s1 (by omega)]
  · rw [if_neg c4, if_neg c5]
    rw [if_neg (fun z => c4 z.1)] at v2
    rw [if_neg c5] at v3
    by_cases c7 : s = 7
    · rw [if_pos c7, k_rs, v1, if_pos c7]
      exact ⟨rfl, v2, v3⟩
    · rw [if_neg c7, k_rs, v1, if_neg c7, if_neg (fun z => z.elim c4 c5)]
      exact ⟨rfl, v2, v3⟩
theorem sml_r {x : Nat} {j : Int32} : (∀ g y, g ≠ 223 ∨ y ≠ t → (k_sml P t j).1 g y = P.1 g y) ∧ (x ≠ t + 1 → (k_sml P t j).2 x = P.2 x) := by
  unfold k_sml
  refine ⟨fun g y h => ?_, fun h => ?_⟩
  · repeat' split
    all_goals (try rw [k_a1]); exact k_wno h
  · repeat' split
    all_goals first | rfl | (rw [k_an h]; rfl)
/-- the copy of a small one -/
theorem cpy_vl (h : R_vl P t A 120 s) : R_vl P t (y_copy 120 121 A) 121 s := by
  have it : ∀ j, j < 8 → (y_copy 120 121 A) 12 (8 * 121 + j) = A 12 (8 * 120 + j) := fun j hj => by
    unfold y_copy
    rw [up_s]
    simp only [va_cpy]
    rw [if_pos (by omega), Nat.add_sub_cancel_left]
  have v : (y_copy 120 121 A) 9 121 = A 9 120 ∧ (y_copy 120 121 A) 10 121 = A 10 120 ∧ (y_copy 120 121 A) 11 121 = A 11 120 := by
    unfold y_copy
    simp (decide := true) only [up_n, up_s, ne_eq, not_false_eq_true, and_self]
  obtain ⟨h1, h2, h3⟩ := h
  unfold R_vl
  rw [v.1, v.2.1, v.2.2]
  refine ⟨fun c => ?_, fun c => ?_, h3⟩
  · obtain ⟨z, z1, z2, z3, z4, z5, z6⟩ := h1 c
    exact ⟨z, z1, z2, z3, z4, z5, fun i hi => by rw [it i (by omega)]; exact z6 i hi⟩
  · obtain ⟨z1, z2, z3, z4⟩ := h2 c
    exact ⟨z1, z2, z3, fun i hi hb => by rw [it i hi]; exact z4 i hi hb⟩
theorem cpy_A {g : Nat} (h : g ∉ [9, 10, 11, 12]) : (y_copy 120 121 A) g = A g := by
  unfold y_copy
  rw [up_n (nmem h (by decide)), up_n (nmem h (by decide)), up_n (nmem h (by decide)), up_n (nmem h (by decide))]
theorem cpy_x {x : Nat} (h : x ≠ 121) : (y_copy 120 121 A) 9 x = A 9 x ∧ (y_copy 120 121 A) 10 x = A 10 x ∧ (y_copy 120 121 A) 11 x = A 11 x := by
  unfold y_copy
  simp (decide := true) only [up_n, up_s, ne_eq, not_false_eq_true, h, and_self]
theorem cpy_i {x : Nat} (h : x < 968) : (y_copy 120 121 A) 12 x = A 12 x := by
  unfold y_copy
  rw [up_s]
  simp only [va_cpy]
  rw [if_neg (by omega)]
end VN
