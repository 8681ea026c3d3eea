/-! contraries: class and reference alike -/
section RH
variable {Z : k_Z} {U : k_U} {P P' P'' P1 : k_P} {S S' S'' S1 : m_S} {s n x0 o k p x : Nat} {A : Nat → Nat → Int32} {F : Nat → Int32}
theorem R_sh.op2 (hR : R_sh P U s n S.2 x0) (ap : R_ap U s n) (ho : o < n) (h1 : fr_C (s + 2) (k_th U s o) P P') (h2 : fr_M (x0 + o) S S') (h3 : R_vl P' (k_th U s o) S'.2 (x0 + o) (S.2 4 o)) (hsl : R_sl n S'.2 (x0 + o) (S.2 4 o)) : R_sh P' U s n S'.2 x0 := fun o' ho' => by
  obtain ⟨a1, a2, a3, a4, a5⟩ := hR o' ho'
  obtain ⟨e1, e2, e3⟩ := z_frO1 h2.1
  refine ⟨?_, ?_, ?_, ?_, ?_⟩
  · rw [h1.1 _ _ (fun _ => by decide) (fun _ => by decide), e1]; exact a1
  · rw [h1.1 _ _ (fun _ => by decide) (fun _ => by decide), e2]; exact a2
  · rw [h1.1 _ _ (fun _ => by decide) (fun _ => by decide), e3]; exact a3
  · rw [e1]
    by_cases c : o' = o
    · subst c; exact h3
    · have ne : k_th U s o' ≠ k_th U s o := fun z => c (ap.1 o' o ho' ho z)
      have nv := h2.2.1 (x0 + o') (by omega)
      have := ap.2 o' ho'
      exact a4.cg (h1.1 _ _ (fun _ => by decide) (fun z => absurd z ne)) (h1.2 _ (by omega) (by omega)) nv.1 nv.2.1 nv.2.2 (fun i hi => h2.2.2 _ (by omega))
  · rw [e1]
    by_cases c : o' = o
    · subst c; exact hsl
    · unfold R_sl at a5 ⊢
      rw [(h2.2.1 (x0 + o') (by omega)).1]
      exact a5
/-- what must stand for a contrary -/
def cy_R (k o : Nat) (i : Nat) (A : Nat → Nat → Int32) : Prop := (k = 8 → ∃ z, 1 ≤ z ∧ z ≤ 8 ∧ A 10 o = nI z) ∧ (k = 9 → ∃ z, z < 8 ∧ A 10 o = nI z) ∧ (k = 12 ∨ k = 13 → ∃ q, q < 8 ∧ A 37 i = nI q ∧ (k = 12 → A 41 i = 0 ∨ k_b (A 11 o) q = true))
theorem rv_val {s : Int32} {v : Int32} (h : R_vl P x A o s) (s4 : ¬ s = 4) (s5 : ¬ s = 5) : fr_C p x P (k_wr P 223 x v) ∧ fr_M o (F, A) (F, va_up A 9 (va_up (A 9) o v)) ∧ R_vl (k_wr P 223 x v) x (va_up A 9 (va_up (A 9) o v)) o s := by
  refine ⟨fr_C.rf.wrv, fr_M.val fr_M.rf (fun i hi => up_n hi), fun z => absurd z s4, fun z => absurd z s5, fun _ _ => ?_⟩
  rw [k_rs, up_s, up_s, up_n (by decide), up_n (by decide)]
  exact ⟨rfl, (h.2.2 s4 s5).2⟩
theorem rev_th {s : Int32} {i b : Nat} {ans sv : Int32} (hk : k < 22) (n18 : k ≠ 18) (n19 : k ≠ 19) (hh : y_has s (nI k) = true) (h : R_vl P x A o s) (hc : cy_R k o i A) (ea : A 39 i = ans) (e2 : k = 2 → sv = A 40 i) (e3 : k = 3 ∨ k = 17 → ans = A 40 i) (e12 : k = 12 → A 41 i = sv ∧ (sv = 0 ∨ sv = 1)) :
    fr_C p x P (k_rev P x (nI k) (A 37 i) ans sv) ∧ fr_M o (F, A) (F, y_con i k o b A) ∧ R_vl (k_rev P x (nI k) (A 37 i) ans sv) x (y_con i k o b A) o s := by
  have D : True := trivial
  have hk' : k = 1 ∨ k = 2 ∨ k = 3 ∨ k = 4 ∨ k = 5 ∨ k = 8 ∨ k = 9 ∨ k = 12 ∨ k = 13 ∨ k = 15 ∨ k = 16 ∨ k = 17 ∨ (k = 0 ∨ k = 6 ∨ k = 7 ∨ k = 10 ∨ k = 11 ∨ k = 14 ∨ k = 20 ∨ k = 21) := by clear e2 e3 e12 hc; omega
  rcases hk' with rfl | rfl | rfl | rfl | rfl | rfl | rfl | rfl | rfl | rfl | rfl | rfl | hk'
  · have s4 : ¬ s = 4 := fun z => by subst z; revert hh; decide
    have s5 : ¬ s = 5 := fun z => by subst z; revert hh; decide
    have hv := (h.2.2 s4 s5).1
    simp (decide := true) only [k_rev, y_con, if_true, if_false]
    rw [hv]
    exact rv_val h s4 s5
  · have s4 : ¬ s = 4 := fun z => by subst z; revert hh; decide
    have s5 : ¬ s = 5 := fun z => by subst z; revert hh; decide
    simp (decide := true) only [k_rev, y_con, if_true, if_false]
    rw [e2 rfl]
    exact rv_val h s4 s5
  · have s4 : ¬ s = 4 := fun z => by subst z; revert hh; decide
    have s5 : ¬ s = 5 := fun z => by subst z; revert hh; decide
    simp (decide := true) only [k_rev, y_con, if_true, if_false]
    rw [e3 (Or.inl rfl)]
    exact rv_val h s4 s5
  · have s4 : ¬ s = 4 := fun z => by subst z; revert hh; decide
    have s5 : ¬ s = 5 := fun z => by subst z; revert hh; decide
    have hv := (h.2.2 s4 s5).1
    simp (decide := true) only [k_rev, y_con, if_true, if_false]
    rw [ea, hv]
    by_cases c : ans = 1
    · rw [if_pos c, if_pos c]
      exact rv_val h s4 s5
    · rw [if_neg c, if_neg c, Int32.and_neg_one]
      exact rv_val h s4 s5
  · have s4 : ¬ s = 4 := fun z => by subst z; revert hh; decide
    have s5 : ¬ s = 5 := fun z => by subst z; revert hh; decide
    have hv := (h.2.2 s4 s5).1
    simp (decide := true) only [k_rev, y_con, if_true, if_false]
    rw [ea, hv]
    by_cases c : ans = 1
    · rw [if_pos c, if_pos c]
      exact rv_val h s4 s5
    · rw [if_neg c, if_neg c, Int32.or_zero]
      exact rv_val h s4 s5
  · have s3 : s = 4 := by rw [show nI 8 = 8 from rfl, yh_8] at hh; simpa using hh
    subst s3
    obtain ⟨z, hz, q1, q2, q3, q4, q5⟩ := h.1 rfl
    obtain ⟨z', h1, h2, h3⟩ := hc.1 rfl
    have ez : z' = z := by rw [q2] at h3; rw [i_eq (by omega) (by omega)] at h3; exact h3.symm
    subst ez
    simp (decide := true) only [k_rev, y_con, if_true, if_false]
    have ev : (if 0 < P.1 223 x - 1 then P.1 223 x - 1 else 0) = nI (z' - 1) := by
      rw [q1, i_s1 (by omega)]
      by_cases c : z' - 1 = 0
      · rw [c]; rfl
      · rw [if_pos (by rw [il_lt_0 (by omega)]; omega)]
    rw [ev, q2, i_s1 (by omega)]
    refine ⟨fr_C.rf.wrv, fr_M.sz fr_M.rf (fun i hi => up_n hi), fun _ => ⟨z' - 1, by omega, k_rs, ?_, ?_, ?_, fun q hq => ?_⟩, fun z => absurd z (by decide), fun z => absurd rfl z⟩
    · rw [up_s, up_s]
    · rw [up_n (by decide)]; exact q3
    · rw [up_n (by decide)]; exact q4
    · rw [k_r2, up_n (by decide)]; exact q5 q (by omega)
  · have s3 : s = 4 := by rw [show nI 9 = 9 from rfl, yh_9] at hh; simpa using hh
    subst s3
    obtain ⟨z, hz, q1, q2, q3, q4, q5⟩ := h.1 rfl
    obtain ⟨z', h1, h3⟩ := hc.2.1 rfl
    have ez : z' = z := by rw [q2] at h3; rw [i_eq (by omega) (by omega)] at h3; exact h3.symm
    subst ez
    simp (decide := true) only [k_rev, y_con, if_true, if_false]
    rw [ea, q2, i_cl (by omega), i_a1]
    unfold k_putF
    refine ⟨(fr_C.rf.wa (Or.inr rfl)).wrv, fr_M.sz (fr_M.it fr_M.rf (fun i hi => ?_)) (fun i hi => up_n hi), fun _ => ⟨z' + 1, by omega, ?_, ?_, ?_, ?_, fun q hq => ?_⟩, fun z => absurd z (by decide), fun z => absurd rfl z⟩
    · rw [up_n (by omega), va_cpy, if_neg (by omega)]
    · rw [k_rs, q1, i_a1]
    · rw [up_s, up_s]
    · rw [up_n (by decide), up_n (by decide)]; exact q3
    · rw [up_n (by decide), up_n (by decide)]; exact q4
    · rw [k_r2, k_as]
      conv => rhs; rw [up_n (by decide), up_s]
      by_cases c : q = 0
      · subst c; rw [if_pos rfl]; exact up_s.symm
      · rw [if_neg c, if_pos (by omega), up_n (by omega), va_cpy, if_pos (by omega), q5 (q - 1) (by omega)]
        congr 1; omega
  · have s3 : s = 5 := by rw [show nI 12 = 12 from rfl, yh_12] at hh; simpa using hh
    subst s3
    obtain ⟨q1, q2, q3, q4⟩ := h.2.1 rfl
    obtain ⟨q, hq, eq, hb⟩ := hc.2.2 (Or.inl rfl)
    obtain ⟨e5, e6⟩ := e12 rfl
    simp (decide := true) only [k_rev, y_con, if_true, if_false]
    rw [eq, i_cl (by omega), ea, e5]
    unfold k_putB
    rcases e6 with rfl | rfl
    · simp (decide := true) only [if_true, if_false]
      refine ⟨fr_C.rf.wrv, fr_M.it (fr_M.th fr_M.rf (fun i hi => up_n hi)) (fun i hi => up_n (by omega)), fun z => absurd z (by decide), fun _ => ⟨?_, ?_, ?_, fun i hi hb => ?_⟩, fun _ z => absurd rfl z⟩
      · rw [k_rs, up_n (by decide), up_s, up_s, q1]; rfl
      · rw [up_n (by decide), up_n (by decide)]; exact q2
      · rw [up_n (by decide), up_n (by decide)]; exact q3
      · rw [up_n (by decide), up_s, up_s] at hb
        have := k_bclr (v := A 11 o) (a := q) (i := i) (by omega) (by omega)
        unfold k_bit at this
        rw [this, Bool.and_eq_true] at hb
        have ne : i ≠ q := fun e => by rw [e] at hb; simp at hb
        rw [k_r2, up_s, up_n (by omega)]
        exact q4 i hi hb.1
    · simp (decide := true) only [if_true, if_false]
      have hbt : k_b (A 11 o) q = true := by
        rcases hb rfl with z | z
        · rw [e5] at z; exact absurd z (by decide)
        · exact z
      have eor : A 11 o ||| k_bit q = A 11 o := k_bext (fun i hi => by
        rw [k_bset (by omega) hi]
        by_cases c : q = i
        · subst c; rw [hbt]; rfl
        · rw [decide_eq_false c, Bool.or_false])
      rw [Int32.and_neg_one]
      refine ⟨(fr_C.rf.wa (Or.inr rfl)).wrv, fr_M.it (fr_M.th fr_M.rf (fun i hi => up_n hi)) (fun i hi => up_n (by omega)), fun z => absurd z (by decide), fun _ => ⟨?_, ?_, ?_, fun i hi hb => ?_⟩, fun _ z => absurd rfl z⟩
      · rw [k_rs, up_n (by decide), up_s, up_s, q1]; exact eor
      · rw [up_n (by decide), up_n (by decide)]; exact q2
      · rw [up_n (by decide), up_n (by decide)]; exact q3
      · rw [up_n (by decide), up_s, up_s] at hb
        rw [k_r2, k_as, up_s]
        by_cases c : i = q
        · subst c; rw [up_s, up_s]
        · rw [up_n c, up_n (by omega)]; exact q4 i hi hb
  · have s3 : s = 5 := by rw [show nI 13 = 13 from rfl, yh_13] at hh; simpa using hh
    subst s3
    obtain ⟨q1, q2, q3, q4⟩ := h.2.1 rfl
    obtain ⟨q, hq, eq, _⟩ := hc.2.2 (Or.inr rfl)
    simp (decide := true) only [k_rev, y_con, if_true, if_false]
    rw [eq, i_cl (by omega), ea]
    unfold k_putB
    rw [if_pos (by first | rfl | (simp (decide := true)))]
    refine ⟨(fr_C.rf.wa (Or.inr rfl)).wrv, fr_M.it (fr_M.th fr_M.rf (fun i hi => up_n hi)) (fun i hi => up_n (by omega)), fun z => absurd z (by decide), fun _ => ⟨?_, ?_, ?_, fun i hi hb => ?_⟩, fun _ z => absurd rfl z⟩
    · rw [k_rs, up_n (by decide), up_s, up_s, q1]; rfl
    · rw [up_n (by decide), up_n (by decide)]; exact q2
    · rw [up_n (by decide), up_n (by decide)]; exact q3
    · rw [up_n (by decide), up_s, up_s] at hb
      rw [k_r2, k_as, up_s]
      by_cases c : i = q
      · subst c; rw [up_s, up_s]
      · rw [up_n c, up_n (by omega)]
        have := k_bset (v := A 11 o) (a := q) (i := i) (by omega) (by omega)
        unfold k_bit at this
        rw [this, decide_eq_false (Ne.symm c), Bool.or_false] at hb
        exact q4 i hi hb
  · have s4 : ¬ s = 4 := fun z => by subst z; revert hh; decide
    have s5 : ¬ s = 5 := fun z => by subst z; revert hh; decide
    have hv := (h.2.2 s4 s5).1
    simp (decide := true) only [k_rev, y_con, if_true, if_false]
    rw [hv]
    exact rv_val h s4 s5
  · have s4 : ¬ s = 4 := fun z => by subst z; revert hh; decide
    have s5 : ¬ s = 5 := fun z => by subst z; revert hh; decide
    have hv := (h.2.2 s4 s5).1
    simp (decide := true) only [k_rev, y_con, if_true, if_false]
    rw [hv]
    exact rv_val h s4 s5
  · have s4 : ¬ s = 4 := fun z => by subst z; revert hh; decide
    have s5 : ¬ s = 5 := fun z => by subst z; revert hh; decide
    simp (decide := true) only [k_rev, y_con, if_true, if_false]
    rw [e3 (Or.inr rfl)]
    exact rv_val h s4 s5
  · have e : k_rev P x (nI k) (A 37 i) ans sv = P ∧ y_con i k o b A = A := by
      rcases hk' with rfl | rfl | rfl | rfl | rfl | rfl | rfl | rfl
      all_goals simp (decide := true) only [k_rev, y_con, if_true, if_false, and_self]
    rw [e.1, e.2]
    exact ⟨fr_C.rf, fr_M.rf, h⟩
/-- the contrary of a row's act on the live shelf -/
theorem revS_ok {i r b : Nat} (hR : R_sh P U s n A 0) (hs : k_Sh Z P U s n) (ap : R_ap U s n) (hn : n ≤ 40) (ho : o < n) (hk : k < 22) (hh : y_has (A 4 o) (nI k) = true) (hc : cy_R k o i A)
    (r1 : P.1 142 r = nI o) (r2 : P.1 143 r = nI k) (r3 : P.1 144 r = A 37 i) (r4 : P.1 146 r = A 39 i) (r5 : P.1 145 r = A 38 i)
    (e2 : k = 2 → P.1 148 r = A 40 i) (e3 : k = 3 ∨ k = 17 → A 39 i = A 40 i) (e12 : k = 12 → A 41 i = P.1 148 r ∧ (P.1 148 r = 0 ∨ P.1 148 r = 1))
    (e17 : k = 17 → A 40 i = -1 ∨ ∃ q, q < n ∧ A 40 i = nI q) (e18 : k = 18 → b < n ∧ A 38 i = nI b ∧ (A 4 b = 1 ∨ A 4 b = 6)) (e19 : k = 19 → b < n ∧ b ≠ o ∧ A 38 i = nI b ∧ A 4 b = 6) :
    R_sh (k_revS P U s n r) U s n (y_con i k o b A) 0 ∧ fr_S U s n P (k_revS P U s n r) ∧ fr_N 0 n (F, A) (F, y_con i k o b A) := by
  have hR' : R_sh P U s n ((F, A) : m_S).2 0 := hR
  by_cases k18 : k = 18
  · subst k18
    obtain ⟨hb, eb, sb⟩ := e18 rfl
    have s4 : ¬ A 4 b = 4 := fun z => by rw [z] at sb; exact absurd sb (by decide)
    have s5 : ¬ A 4 b = 5 := fun z => by rw [z] at sb; exact absurd sb (by decide)
    have h := (hR b hb).2.2.2.1
    rw [Nat.zero_add] at h
    have e : k_revS P U s n r = k_wr P 223 (k_th U s b) (A 9 b - A 37 i) := by
      unfold k_revS
      rw [r1, r5, eb, k_tO_s ho hn, k_tO_s hb hn]
      dsimp only
      rw [r2, if_pos (by decide), r3]
      simp (decide := true) only [k_rev, if_true]
      rw [(h.2.2 s4 s5).1]
    have e' : y_con i 18 o b A = va_up A 9 (va_up (A 9) b (A 9 b - A 37 i)) := by simp (decide := true) only [y_con, if_true, if_false]
    rw [e, e']
    obtain ⟨c1, c2, c3⟩ := rv_val (p := s + 2) (F := F) (v := A 9 b - A 37 i) h s4 s5
    refine ⟨hR'.op2 ap hb c1 (by rw [Nat.zero_add]; exact c2) (by rw [Nat.zero_add]; exact c3) (fun z => ?_), c1.sh hb, fr_M.sh (x0 := 0) (by rw [Nat.zero_add]; exact c2) hb⟩
    dsimp only at z
    rw [z] at sb
    exact absurd sb (by decide)
  · by_cases k19 : k = 19
    · subst k19
      obtain ⟨hb, hbo, eb, sb⟩ := e19 rfl
      have so : A 4 o = 6 := by rw [show nI 19 = 19 from rfl, yh_19] at hh; simpa using hh
      have h := (hR b hb).2.2.2.1
      rw [Nat.zero_add] at h
      have h' := (hR o ho).2.2.2.1
      rw [Nat.zero_add] at h'
      have ne : k_th U s o ≠ k_th U s b := fun z => hbo (ap.1 b o hb ho z.symm)
      have e : k_revS P U s n r = k_wr (k_wr P 223 (k_th U s b) (A 9 b - A 37 i)) 223 (k_th U s o) (A 9 o + A 37 i) := by
        unfold k_revS
        rw [r1, r5, eb, k_tO_s ho hn, k_tO_s hb hn]
        dsimp only
        rw [r2, if_neg (by decide), if_pos (by decide), r3]
        simp (decide := true) only [k_rev, if_true, if_false]
        rw [k_ra ne, (h.2.2 (by rw [sb]; decide) (by rw [sb]; decide)).1, (h'.2.2 (by rw [so]; decide) (by rw [so]; decide)).1]
      have e' : y_con i 19 o b A = va_up (va_up A 9 (va_up (A 9) b (A 9 b - A 37 i))) 9 (va_up ((va_up A 9 (va_up (A 9) b (A 9 b - A 37 i))) 9) o (A 9 o + A 37 i)) := by
        simp (decide := true) only [y_con, if_true, if_false]
        rw [up_n hbo, up_s, up_u]
        congr 1
        funext q
        by_cases q1 : q = o
        · subst q1; rw [up_n (Ne.symm hbo), up_s, up_s]
        · by_cases q2 : q = b
          · subst q2; rw [up_s, up_n q1, up_s]
          · rw [up_n q2, up_n q1, up_n q1, up_n q2]
      rw [e, e']
      obtain ⟨c1, c2, c3⟩ := rv_val (p := s + 2) (F := F) (v := A 9 b - A 37 i) h (by rw [sb]; decide) (by rw [sb]; decide)
      have R2 := hR'.op2 (S' := (F, va_up A 9 (va_up (A 9) b (A 9 b - A 37 i)))) ap hb c1 (by rw [Nat.zero_add]; exact c2) (by rw [Nat.zero_add]; exact c3) (fun z => by dsimp only at z; rw [sb] at z; exact absurd z (by decide))
      have so2 : (va_up A 9 (va_up (A 9) b (A 9 b - A 37 i))) 4 o = 6 := by rw [up_n (by decide)]; exact so
      have h2 := (R2 o ho).2.2.2.1
      rw [Nat.zero_add] at h2
      obtain ⟨d1, d2, d3⟩ := rv_val (p := s + 2) (F := F) (v := A 9 o + A 37 i) h2 (by dsimp only; rw [so2]; decide) (by dsimp only; rw [so2]; decide)
      refine ⟨R2.op2 ap ho d1 (by rw [Nat.zero_add]; exact d2) (by rw [Nat.zero_add]; exact d3) (fun z => by dsimp only at z; rw [so2] at z; exact absurd z (by decide)), (c1.sh hb).tr (d1.sh ho), (fr_M.sh (x0 := 0) (by rw [Nat.zero_add]; exact c2) hb).tr (fr_M.sh (x0 := 0) (by rw [Nat.zero_add]; exact d2) ho)⟩
    · have kn : ∀ m : Nat, m < 22 → k ≠ m → ¬ nI k = nI m := fun m hm h z => h (by rw [i_eq (by omega) (by omega)] at z; exact z)
      have e : k_revS P U s n r = k_rev P (k_th U s o) (nI k) (A 37 i) (A 39 i) (P.1 148 r) := by
        unfold k_revS
        rw [r1, k_tO_s ho hn]
        cases k_tO U s n (P.1 145 r) with
        | none => dsimp only; rw [r2, r3, r4]
        | some y => dsimp only; rw [r2, if_neg (show ¬ nI k = (18 : Int32) from kn 18 (by omega) k18), if_neg (show ¬ nI k = (19 : Int32) from kn 19 (by omega) k19), r3, r4]
      rw [e]
      have h := (hR o ho).2.2.2.1
      rw [Nat.zero_add] at h
      obtain ⟨c1, c2, c3⟩ := rev_th (p := s + 2) (F := F) (b := b) hk k18 k19 hh h hc rfl e2 e3 e12
      refine ⟨hR'.op2 (S' := (F, y_con i k o b A)) ap ho c1 (by rw [Nat.zero_add]; exact c2) (by rw [Nat.zero_add]; exact c3) (fun z => ?_), c1.sh ho, fr_M.sh (x0 := 0) (by rw [Nat.zero_add]; exact c2) ho⟩
      dsimp only at z ⊢
      rw [z] at hh
      have hk2 : k = 0 ∨ k = 17 ∨ k = 21 := by
        clear e2 e3 e12 e17 e18 e19 hc c1 c2 c3 kn e
        have hk' : k = 0 ∨ k = 1 ∨ k = 2 ∨ k = 3 ∨ k = 4 ∨ k = 5 ∨ k = 6 ∨ k = 7 ∨ k = 8 ∨ k = 9 ∨ k = 10 ∨ k = 11 ∨ k = 12 ∨ k = 13 ∨ k = 14 ∨ k = 15 ∨ k = 16 ∨ k = 17 ∨ k = 20 ∨ k = 21 := by omega
        rcases hk' with rfl | rfl | rfl | rfl | rfl | rfl | rfl | rfl | rfl | rfl | rfl | rfl | rfl | rfl | rfl | rfl | rfl | rfl | rfl | rfl
        all_goals first | exact Or.inl rfl | exact Or.inr (Or.inl rfl) | exact Or.inr (Or.inr rfl) | (exfalso; revert hh; decide)
      rw [Nat.zero_add]
      rcases hk2 with rfl | rfl | rfl
      · have := (hR o ho).2.2.2.2 z
        rw [Nat.zero_add] at this
        simpa (decide := true) only [y_con, if_true, if_false] using this
      · simp (decide := true) only [y_con, if_true, if_false]
        rw [up_s, up_s]
        exact e17 rfl
      · have := (hR o ho).2.2.2.2 z
        rw [Nat.zero_add] at this
        simpa (decide := true) only [y_con, if_true, if_false] using this
end RH
