/-! acts on queues and maps -/
section RC
variable {P P' P'' P1 : k_P} {S S' S'' S1 : m_S} {p x j : Nat} {s : Int32}
theorem op_gen (h : op_pre p x j s P1 S1) (f1 : fr_C p x P P1) (f2 : fr_M j S S1) {a : Int32} (c1 : fr_C p x P1 P') (m1 : fr_M j S1 S') (v : R_vl P' x S'.2 j s) (t : P'.1 103 p = P1.1 103 p) (b : P'.2 (p + 1) = P1.2 (p + 1)) (i1 : S'.1 29 = S1.1 29) (i2 : S'.1 30 = S1.1 30) (i3 : S'.2 31 = S1.2 31) (e : P'.1 101 p = S'.1 25) (e2 : S'.1 25 = 0 → P'.1 100 p = a) : op_R p x j s P S P' a S' :=
  ⟨f1.tr c1, f2.tr m1, v, h.2.1.cg t b i1 i2 i3, e, e2⟩
theorem op_que (h : op_pre p x j 4 P1 S1) (f1 : fr_C p x P P1) (f2 : fr_M j S S1) {k : Nat} {a : Int32} (hk : k = 8 ∨ k = 9 ∨ k = 10 ∨ k = 11) : op_R p x j 4 P S (k_que P1 x p (P1.1 223 x).toNatClampNeg (nI k) a) (y_ofQ j k a S1).1 (y_ofQ j k a S1).2 := by
  obtain ⟨z, hz, e1, e2, e3, e4, e5⟩ := h.1.1 rfl
  have fz : P1.1 101 p = 0 := h.2.2.1
  have fz2 : S1.1 25 = 0 := h.2.2.2.1
  have hxp : x ≠ p := h.2.2.2.2.2.2
  have n45 : ∀ {Q : Prop}, ((4 : Int32) = 5 → Q) := fun z => absurd z (by decide)
  rw [e1, i_cl (by omega)]
  unfold k_que y_ofQ
  dsimp only
  rw [e2]
  have fs0 : ∀ w : Int32, va_up (y_body w S1).1 25 0 = (y_body w S1).1 := fun w => up_e ((yb_F (by decide)).trans fz2)
  rcases hk with rfl | rfl | rfl | rfl
  · simp (decide := true) only [if_true, if_false]
    rw [show nI (8 + 4) = 12 from by decide]
    have B := h.body 12
    by_cases c : z = 8
    · rw [if_pos c, if_pos (show nI z = 8 from by rw [c]; rfl)]
      exact op_find B f1.body f2.body (by decide)
    · rw [if_neg c, if_neg (show ¬ nI z = 8 from fun e => c (by rw [il_eq_8 (by omega)] at e; exact e)), i_cl (by omega), i_a1]
      dsimp only
      refine op_gen B f1.body f2.body ?_ ?_ ⟨fun _ => ⟨z + 1, by omega, ?_, ?_, ?_, ?_, fun i hi => ?_⟩, n45, fun n => absurd rfl n⟩ ?_ ?_ rfl rfl ?_ ?_ (fun _ => k_rs)
      · exact ((fr_C.rf.wa (Or.inr rfl)).wrv).wrp (by decide)
      · refine fr_M.sz (fr_M.it fr_M.rfE (fun i hi => ?_)) (fun i hi => ?_)
        · rw [up_n (by omega), yb_A (by decide)]
        · rw [up_n hi, yb_A (by decide)]
      · rw [k_rn (by decide), k_rs]
      · dsimp only; rw [up_s, up_s]
      · dsimp only; rw [up_n (by decide), up_n (by decide), yb_A (by decide)]; exact e3
      · dsimp only; rw [up_n (by decide), up_n (by decide), yb_A (by decide)]; exact e4
      · dsimp only
        rw [k_r2, k_r2, k_as]
        conv => rhs; rw [up_n (by decide), up_s]
        by_cases ci : i = z
        · subst ci; rw [up_s, up_s]
        · rw [up_n ci, up_n (by omega)]; exact e5 i (by omega)
      · rw [k_rn (by decide), k_rn (by decide), k_a1]
      · rw [k_r2, k_r2, k_an (by omega)]
      · dsimp only; rw [up_n (by decide), up_n (by decide)]
      · dsimp only; rw [k_rn (by decide), k_rn (by decide), k_a1, kb_1 (by decide), yb_F (by decide), fz, fz2]
  · simp (decide := true) only [if_true, if_false]
    rw [show nI (9 + 4) = 13 from by decide]
    have B := h.body 13
    by_cases c : z = 0
    · rw [if_pos c, if_pos (show nI z = 0 from by rw [c]; rfl)]
      exact op_find B f1.body f2.body (by decide)
    · rw [if_neg c, if_neg (show ¬ nI z = 0 from fun e => c (by rw [il_eq_0 (by omega)] at e; exact e)), i_cl (by omega), i_s1 (by omega)]
      dsimp only
      refine op_gen B f1.body f2.body ?_ ?_ ⟨fun _ => ⟨z - 1, by omega, ?_, ?_, ?_, ?_, fun i hi => ?_⟩, n45, fun n => absurd rfl n⟩ ?_ ?_ rfl rfl ?_ ?_ (fun _ => ?_)
      · exact ((fr_C.rf.wrp (by decide)).wa (Or.inr rfl)).wrv
      · refine fr_M.sz (fr_M.it fr_M.rfE (fun i hi => ?_)) (fun i hi => ?_)
        · rw [va_cpy, if_neg (by omega), yb_A (by decide)]
        · rw [up_n hi, yb_A (by decide)]
      · rw [k_rs]
      · dsimp only; rw [up_s, up_s]
      · dsimp only; rw [up_n (by decide), up_n (by decide), yb_A (by decide)]; exact e3
      · dsimp only; rw [up_n (by decide), up_n (by decide), yb_A (by decide)]; exact e4
      · dsimp only
        rw [k_r2, k_as, up_n (by decide), up_s]
        unfold e_cpy va_cpy
        rw [if_pos (by omega), if_pos (by omega), show 1 + (i - 0) = i + 1 by omega, show 8 * j + 1 + (8 * j + i - 8 * j) = 8 * j + (i + 1) by omega]
        exact e5 (i + 1) (by omega)
      · rw [k_rn (by decide), k_a1, k_rn (by decide)]
      · rw [k_r2, k_an (by omega), k_r2]
      · dsimp only; rw [up_n (by decide), up_n (by decide)]
      · dsimp only; rw [k_rn (by decide), k_a1, k_rn (by decide), kb_1 (by decide), yb_F (by decide), fz, fz2]
      · rw [k_rn (by decide), k_a1, k_rs, e5 0 (by omega), Nat.add_zero]
  · simp (decide := true) only [if_true, if_false]
    rw [show nI (10 + 4) = 14 from by decide]
    have B := h.body 14
    simp only [isIn_lt (show z ≤ 2000000000 by omega)]
    by_cases c : 0 ≤ a ∧ a < nI z
    · rw [if_pos c, if_pos c]
      obtain ⟨i, rfl, hi⟩ := n_of2 c.1 c.2 (by omega)
      dsimp only
      rw [fs0, i_cl (by omega), ← e5 i hi]
      exact op_get B f1.body f2.body
    · rw [if_neg c, if_neg c]
      exact op_find B f1.body f2.body (by decide)
  · simp (decide := true) only [if_true, if_false]
    rw [show nI (11 + 4) = 15 from by decide]
    have B := h.body 15
    unfold k_first
    by_cases c : a < 0
    · rw [if_pos c, if_pos c]
      exact op_find B f1.body f2.body (by decide)
    · rw [if_neg c, if_neg c]
      by_cases c2 : nI z < a
      · rw [if_pos c2, if_pos c2]
        exact op_find B f1.body f2.body (by decide)
      · rw [if_neg c2, if_neg c2]
        obtain ⟨i, rfl, hi⟩ := n_of (Int32.not_lt.mp c)
        have hi2 : i ≤ z := by
          have := Int32.le_iff_toInt_le.mp (Int32.not_lt.mp c2)
          rw [nI_toInt (by omega), nI_toInt (by omega)] at this
          omega
        dsimp only
        rw [fs0, i_cl (by omega), kb_2 (by omega)]
        rw [y_sm_cg (g := S1.2 12) (c := 8 * j) (fun q hq => by rw [Nat.zero_add]; exact e5 q (by omega))]
        exact op_get B f1.body f2.body
theorem k_bset {v : Int32} {a i : Nat} (ha : a < 32) (hi : i < 32) : k_b (v ||| k_bit a) i = (k_b v i || decide (a = i)) := by
  unfold k_bit
  rw [k_bor, k_bone a ha i hi]
theorem k_bclr {v : Int32} {a i : Nat} (ha : a < 32) (hi : i < 32) : k_b (v &&& (k_bit a ^^^ (-1))) i = (k_b v i && !decide (a = i)) := by
  unfold k_bit
  rw [k_band, k_bxor, k_bone a ha i hi, k_bm1 i hi, Bool.xor_true]
theorem op_map (h : op_pre p x j 5 P1 S1) (f1 : fr_C p x P P1) (f2 : fr_M j S S1) {k i : Nat} {b : Int32} (hk : k = 12 ∨ k = 13 ∨ k = 14) (hi : i < 8) : op_R p x j 5 P S (k_map P1 x p i (nI k) b) (y_ofMap j k i b S1).1 (y_ofMap j k i b S1).2 ∧ (k = 12 → ((y_ofMap j k i b S1).2.1 27 = 0 ∨ (y_ofMap j k i b S1).2.1 27 = 1) ∧ (y_ofMap j k i b S1).2.1 27 = (k_map P1 x p i (nI k) b).1 102 p) := by
  obtain ⟨e1, e2, e3, e4⟩ := h.1.2.1 rfl
  have fz : P1.1 101 p = 0 := h.2.2.1
  have fz2 : S1.1 25 = 0 := h.2.2.2.1
  have hxp : x ≠ p := h.2.2.2.2.2.2
  have n54 : ∀ {Q : Prop}, ((5 : Int32) = 4 → Q) := fun z => absurd z (by decide)
  have ey : (decide ((S1.2 11 j >>> (nI i &&& 31)) &&& 1 = 1)) = k_b (S1.2 11 j) i := by
    have := k_hasb (x := S1.2 11 j) (n := i) (by omega)
    unfold k_has at this
    exact this
  unfold k_map y_ofMap
  dsimp only
  rw [ey, e1, k_hasb (by omega)]
  have fb : ∀ (w : Int32) (F : Nat → Int32), F = (y_body w S1).1 → ∀ v1 v2 : Int32, fr_M j (y_body w S1) (va_up (va_up F 27 v1) 28 v2, (y_body w S1).2) := fun w F e v1 v2 => by
    subst e
    exact fr_M.F (fr_M.F fr_M.rfE (by decide)) (by decide)
  generalize hB : k_b (S1.2 11 j) i = B
  rcases hk with rfl | rfl | rfl
  · rw [if_pos (by decide), if_pos rfl, show nI (12 + 4) = 16 from by decide, show k_mb (nI 12) = 16 from by decide]
    have B' := h.body 16
    refine ⟨op_gen B' f1.body f2.body ?_ ?_ ⟨n54, fun _ => ⟨?_, ?_, ?_, fun q hq hb => ?_⟩, fun _ n => absurd rfl n⟩ ?_ ?_ ?_ ?_ ?_ ?_ (fun _ => ?_), fun _ => ⟨?_, ?_⟩⟩
    · exact (((fr_C.rf.wrp (by decide)).wrp (by decide)).wa (Or.inr rfl)).wrv
    · refine fr_M.it (fr_M.th (fb 16 _ rfl _ _) (fun q hq => ?_)) (fun q hq => ?_)
      · rw [up_n hq, yb_A (by decide)]
      · rw [up_n (by omega), yb_A (by decide)]
    · dsimp only; rw [k_rs, up_n (by decide), up_s, up_s]; rfl
    · dsimp only; rw [up_n (by decide), up_n (by decide), yb_A (by decide)]; exact e2
    · dsimp only; rw [up_n (by decide), up_n (by decide), yb_A (by decide)]; exact e3
    · dsimp only at hb ⊢
      rw [up_n (by decide), up_s, up_s] at hb
      rw [k_r2, k_as, up_s]
      by_cases c : q = i
      · subst c; rw [up_s, up_s]
      · rw [up_n c, up_n (by omega)]
        refine e4 q hq ?_
        have := k_bset (v := S1.2 11 j) (a := i) (i := q) (by omega) (by omega)
        unfold k_bit at this
        rw [this, decide_eq_false (Ne.symm c), Bool.or_false] at hb
        exact hb
    · rw [k_rn (by decide), k_a1, k_rn (by decide), k_rn (by decide)]
    · rw [k_r2, k_an (by omega), k_r2, k_r2]
    · dsimp only; rw [up_n (by decide), up_n (by decide)]
    · dsimp only; rw [up_n (by decide), up_n (by decide)]
    · dsimp only; rw [up_n (by decide), up_n (by decide)]
    · dsimp only; rw [k_rn (by decide), k_a1, k_rn (by decide), k_rn (by decide), kb_1 (by decide), up_n (by decide), up_n (by decide), yb_F (by decide), fz, fz2]
    · rw [k_rn (by decide), k_a1, k_rn (by decide), k_rs]
      cases B
      · rfl
      · rw [if_pos rfl, if_pos rfl]; exact e4 i hi hB
    · dsimp only; rw [up_n (by decide), up_s]; exact b_vc B
    · dsimp only; rw [up_n (by decide), up_s, k_rn (by decide), k_a1, k_rs]; cases B <;> rfl
  · refine ⟨?_, fun z => absurd z (by decide)⟩
    rw [show nI (13 + 4) = 17 from by decide, show k_mb (nI 13) = 17 from by decide]
    have B' := h.body 17
    cases B
    · simp (decide := true) only [if_true, if_false]
      refine op_gen B' f1.body f2.body ?_ ?_ ?_ ?_ rfl ?_ ?_ rfl ?_ (fun z => ?_)
      · exact fr_C.rf.wrp (by decide)
      · exact fr_M.F (fb 17 _ rfl _ _) (by decide)
      · exact B'.1.cg (k_rn (by decide)) rfl rfl rfl rfl (fun _ _ => rfl)
      · rw [k_rn (by decide)]
      · dsimp only; rw [up_n (by decide), up_n (by decide), up_n (by decide)]
      · dsimp only; rw [up_n (by decide), up_n (by decide), up_n (by decide)]
      · dsimp only; rw [k_rs, up_s]
      · dsimp only at z; rw [up_s] at z; exact absurd z (by decide)
    · simp (decide := true) only [if_true, if_false]
      refine op_gen B' f1.body f2.body ?_ ?_ ⟨n54, fun _ => ⟨?_, ?_, ?_, fun q hq hb => ?_⟩, fun _ n => absurd rfl n⟩ ?_ ?_ ?_ ?_ ?_ ?_ (fun _ => ?_)
      · exact (fr_C.rf.wrp (by decide)).wrv
      · refine fr_M.th (fr_M.F (fb 17 _ rfl _ _) (by decide)) (fun q hq => ?_)
        rw [up_n hq, yb_A (by decide)]
      · dsimp only; rw [k_rs, up_s, up_s]; rfl
      · dsimp only; rw [up_n (by decide), yb_A (by decide)]; exact e2
      · dsimp only; rw [up_n (by decide), yb_A (by decide)]; exact e3
      · dsimp only at hb ⊢
        rw [up_s, up_s] at hb
        rw [k_r2, k_r2, kb_2 (by omega), up_n (by decide), yb_A (by decide)]
        refine e4 q hq ?_
        have := k_bclr (v := S1.2 11 j) (a := i) (i := q) (by omega) (by omega)
        unfold k_bit at this
        rw [this, Bool.and_eq_true] at hb
        exact hb.1
      · rw [k_rn (by decide), k_rn (by decide)]
      · rw [k_r2, k_r2]
      · dsimp only; rw [up_n (by decide), up_n (by decide), up_n (by decide)]
      · dsimp only; rw [up_n (by decide), up_n (by decide), up_n (by decide)]
      · dsimp only; rw [up_n (by decide)]
      · dsimp only; rw [k_rn (by decide), k_rn (by decide), kb_1 (by decide), up_s, fz]
      · rw [k_rn (by decide), k_rs]; exact e4 i hi hB
  · refine ⟨?_, fun z => absurd z (by decide)⟩
    rw [show nI (14 + 4) = 18 from by decide, show k_mb (nI 14) = 18 from by decide]
    have B' := h.body 18
    cases B
    · simp (decide := true) only [if_true, if_false]
      refine op_gen B' f1.body f2.body ?_ ?_ ?_ ?_ rfl ?_ ?_ rfl ?_ (fun z => ?_)
      · exact fr_C.rf.wrp (by decide)
      · exact fr_M.F (fb 18 _ rfl _ _) (by decide)
      · exact B'.1.cg (k_rn (by decide)) rfl rfl rfl rfl (fun _ _ => rfl)
      · rw [k_rn (by decide)]
      · dsimp only; rw [up_n (by decide), up_n (by decide), up_n (by decide)]
      · dsimp only; rw [up_n (by decide), up_n (by decide), up_n (by decide)]
      · dsimp only; rw [k_rs, up_s]
      · dsimp only at z; rw [up_s] at z; exact absurd z (by decide)
    · simp (decide := true) only [if_true, if_false]
      refine op_gen B' f1.body f2.body ?_ ?_ ?_ ?_ rfl ?_ ?_ rfl ?_ (fun _ => ?_)
      · exact fr_C.rf.wrp (by decide)
      · exact fr_M.F (fb 18 _ rfl _ _) (by decide)
      · exact B'.1.cg (k_rn (by decide)) rfl rfl rfl rfl (fun _ _ => rfl)
      · rw [k_rn (by decide)]
      · dsimp only; rw [up_n (by decide), up_n (by decide), up_n (by decide)]
      · dsimp only; rw [up_n (by decide), up_n (by decide), up_n (by decide)]
      · dsimp only; rw [k_rn (by decide), kb_1 (by decide), up_s, fz]
      · rw [k_rs]; exact e4 i hi hB
end RC
