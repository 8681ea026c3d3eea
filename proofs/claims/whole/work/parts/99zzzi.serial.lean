/-! serial, as a call -/
section VL
variable {g : e_G} {own : Nat} {r0 : Nat × Nat} {Z Z1 Z2 : k_Z} {P P1 P2 : k_P} {U U1 U2 : k_U} {r r1 r2 : Nat × Nat} {A : m_A} {F : Nat → Int32} {N n m x y t u : Nat} {so p v s : Int32}
theorem smR_cg : ∀ (m i : Nat), i + m ≤ 8 → (∀ k, i ≤ k → k < i + m → (!k_used P t k || decide (P.2 (t + 1) k = P.2 (u + 1) k)) = y_lkK F A x y k) → k_smR P t u i m = y_lkR F A x y i m
  | 0, _, _, _ => rfl
  | m + 1, i, hi, h => by
    rw [k_smR, y_lkR, h i (Nat.le_refl _) (by omega), smR_cg m (i + 1) (by omega) (fun k h1 h2 => h k (by omega) (by omega))]
theorem like_ok (hst : P.1 220 t = s) (hsu : P.1 220 u = s) (hp : P.1 221 t = P.1 221 u) (ht : R_vl P t A y s) (hu : R_vl P u A x s) (hs : y_sort F A x = s) : k_smT P t u = y_like F A x y := by
  unfold k_smT y_like
  rw [hst, hsu, hp, decide_eq_true (rfl : s = s), decide_eq_true (rfl : P.1 221 u = P.1 221 u), Bool.true_and, Bool.true_and]
  by_cases c4 : s = 4
  · obtain ⟨z, z1, z2, z3, z4, z5, z6⟩ := ht.1 c4
    obtain ⟨w, w1, w2, w3, w4, w5, w6⟩ := hu.1 c4
    rw [z2, w2, w3, z3, w4, z4, z5, w5, decide_eq_true (rfl : (0 : Int32) = 0), Bool.true_and, Bool.and_true]
    by_cases e : z = w
    · subst e
      rw [decide_eq_true (rfl : nI z = nI z), Bool.true_and, Bool.true_and]
      refine smR_cg 8 0 (by omega) (fun k _ hk => ?_)
      unfold k_used y_lkK
      rw [hst, hs, z2, if_pos c4, w3, c4]
      by_cases ck : k < z
      · rw [z6 k ck, w6 k ck, decide_eq_true (show nI k < nI z from nI_lt ck (by omega))]
        rw [show decide (A 12 (8 * y + k) = A 12 (8 * x + k)) = decide (A 12 (8 * x + k) = A 12 (8 * y + k)) from decide_eq_decide.mpr ⟨Eq.symm, Eq.symm⟩]
        rfl
      · rw [decide_eq_false (show ¬ nI k < nI z from fun h => ck (by rw [i_lt (by omega) (by omega)] at h; exact h))]
        rfl
    · have e1 : ¬ nI z = nI w := by rw [i_eq (by omega) (by omega)]; exact e
      have e2 : ¬ nI w = nI z := fun h => e1 h.symm
      rw [decide_eq_false e1, decide_eq_false e2, Bool.false_and, Bool.false_and]
  · by_cases c5 : s = 5
    · obtain ⟨z1, z2, z3, z4⟩ := ht.2.1 c5
      obtain ⟨w1, w2, w3, w4⟩ := hu.2.1 c5
      rw [z1, w1, z2, w2, z3, w3, decide_eq_true (rfl : (0 : Int32) = 0), Bool.true_and, Bool.true_and]
      by_cases e : A 11 y = A 11 x
      · rw [decide_eq_true e, decide_eq_true e.symm, Bool.true_and, Bool.true_and]
        refine smR_cg 8 0 (by omega) (fun k _ hk => ?_)
        unfold k_used y_lkK
        rw [hst, hs, z1, if_neg c4, c5, e]
        have kk : k_has (A 11 x) (nI k) = decide (((A 11 x >>> (nI k &&& 31)) &&& 1) = 1) := rfl
        by_cases cb : k_b (A 11 x) k = true
        · rw [z4 k (by omega) (by rw [e]; exact cb), w4 k (by omega) cb, ← kk]
          rw [show decide (A 12 (8 * y + k) = A 12 (8 * x + k)) = decide (A 12 (8 * x + k) = A 12 (8 * y + k)) from decide_eq_decide.mpr ⟨Eq.symm, Eq.symm⟩]
          rfl
        · have : k_has (A 11 x) (nI k) = false := by rw [k_hasb (by omega)]; simpa using cb
          rw [← kk, this]
          rfl
      · rw [decide_eq_false e, decide_eq_false (fun h => e (Eq.symm h)), Bool.false_and, Bool.false_and]
    · obtain ⟨z1, z2, z3⟩ := ht.2.2 c4 c5
      obtain ⟨w1, w2, w3⟩ := hu.2.2 c4 c5
      rw [z1, w1, z2, w2, z3, w3, decide_eq_true (rfl : (0 : Int32) = 0), Bool.and_true, Bool.and_true]
      rw [show decide (A 9 y = A 9 x) = decide (A 9 x = A 9 y) from decide_eq_decide.mpr ⟨Eq.symm, Eq.symm⟩]
      congr 1
      refine smR_cg 8 0 (by omega) (fun k _ hk => ?_)
      unfold k_used y_lkK
      rw [hst, hs, if_neg c4, w3]
      have e4 : (s == 4) = false := by simpa using c4
      have e5 : (s == 5) = false := by simpa using c5
      have kk : decide (((0 : Int32) >>> (nI k &&& 31)) &&& 1 = 1) = false := by
        have : k_has 0 (nI k) = false := by rw [k_hasb (by omega)]; simpa using kb_0 hk
        exact this
      rw [e4, e5, kk]
      rfl
theorem sl_ok {S : m_S} {s1 s2 : Nat} (h1 : R_sh P U s1 n S.2 80) (h2 : R_sh P U s2 n S.2 40) (n40 : n ≤ 40) : ∀ (m o : Nat) (b : Bool), o + m = n → y_sl S o m b = (b && k_smSR P U s1 s2 o m)
  | 0, _, b, _ => by rw [y_sl, k_smSR, Bool.and_true]
  | m + 1, o, b, h => by
    obtain ⟨q1, q2, q3, q4, q5⟩ := h1 o (by omega)
    obtain ⟨w1, w2, w3, w4, w5⟩ := h2 o (by omega)
    have es : y_sort S.1 S.2 (40 + o) = S.2 4 o := by
      unfold y_sort
      rw [if_neg (by omega), show (40 + o) % 40 = o by omega]
    rw [y_sl, k_smSR, sl_ok h1 h2 n40 m (o + 1) _ (by omega), like_ok q1 w1 (q2.trans w2.symm) q4 w4 es, Bool.and_assoc]
theorem Fz.rf : Fz own Z P U r Z P U r := ⟨fun _ _ => rfl, rfl, rfl, rfl, fun _ _ => rfl, fun i x h => ⟨i, h⟩, fun _ _ _ _ _ _ => rfl, fun _ _ _ _ => rfl, Nat.le_refl _, Nat.le_refl _⟩
theorem Fz.size (h : Fz own Z P U r Z1 P1 U1 r1) : Fz own Z P U r Z1 (k_wr P1 161 (own + 9) v) U1 r1 := by
  obtain ⟨a1, a2, a3, a4, a5, a6, a7, a8, a9, b1⟩ := h
  exact ⟨a1, a2, a3, a4, a5, a6, fun f a h0 h1 h2 h3 => by rw [k_wno (Or.inr h2)]; exact a7 f a h0 h1 h2 h3, a8, a9, b1⟩
theorem Fz.put (E : k_E N own Z U r) (h : Fz own Z P U r Z1 P1 U1 r1) (pt : Pt N own (own + 9) m so p v Z1 P1 U1 r1 x Z2 P2 U2 r2) (hx : U1.2.2 (own + 9 + 1) m = some x ∨ x = r1.1 ∧ U1.2.2 (own + 9 + 1) m = none) : Fz own Z P U r Z2 P2 U2 r2 := by
  obtain ⟨a1, a2, a3, a4, a5, a6, a7, a8, a9, b1⟩ := h
  obtain ⟨E', tx, zz, z2, u1, u2, u3, u4, f1, f2, _, _, _, _, _, ro⟩ := pt
  have u3' : U2.2.2 (own + 10) = va_up (U1.2.2 (own + 10)) m (some x) := u3
  have keep : ∀ i y, U1.2.2 (own + 10) i = some y → ∃ j, U2.2.2 (own + 10) j = some y := fun i y h => by
    rw [u3']
    by_cases c : i = m
    · subst c
      rcases hx with z | ⟨_, z⟩
      · have z : U1.2.2 (own + 10) i = some x := z
        rw [h] at z
        cases z
        exact ⟨i, up_s⟩
      · have z : U1.2.2 (own + 10) i = none := z
        rw [h] at z; cases z
    · exact ⟨i, by rw [up_n c]; exact h⟩
  have lt : ∀ a, Z.1 a ≠ 0 → a < r1.1 := fun a h => by have := E.lt h; omega
  refine ⟨fun a h => ?_, z2.trans a2, u1.trans a3, u2.trans a4, fun a h => (u4 a (by omega)).trans (a5 a h), fun i y h => ?_, fun f a h0 h1 h2 h3 => ?_, fun a h0 h1 h2 => ?_, ?_, ?_⟩
  · have e := a1 a h
    exact (zz a (by rw [e]; exact h)).trans e
  · obtain ⟨j, hj⟩ := a6 i y h
    exact keep j y hj
  · rw [f1 f a (lt a h0) (fun z => h1 m (by rw [u3', up_s, z])) (Or.inr h2)]
    exact a7 f a h0 (fun i z => by obtain ⟨j, hj⟩ := keep i a z; exact h1 j hj) h2 h3
  · rw [f2 a (lt a h0)]
    exact a8 a h0 (fun i y z => by obtain ⟨j, hj⟩ := keep i y z; exact h1 j y hj) h2
  · have := ro.1; omega
  · have := ro.2.1; omega
theorem Fz.perf (h : Fz own Z P U r Z1 P1 U1 r1) (hs : k_Sh Z1 P1 U1 (own + 9) m) (hf : fr_S U1 (own + 9) m P1 P2) : Fz own Z P U r Z1 P2 U1 r1 := by
  obtain ⟨a1, a2, a3, a4, a5, a6, a7, a8, a9, b1⟩ := h
  refine ⟨a1, a2, a3, a4, a5, a6, fun f a h0 h1 h2 h3 => ?_, fun a h0 h1 h2 => ?_, a9, b1⟩
  · rw [hf.1 f a (fun z => absurd z h3) (fun ⟨o, o1, o2⟩ => absurd (by rw [o2]; exact hs.2.2.2 o o1) (h1 o))]
    exact a7 f a h0 h1 h2 h3
  · rw [hf.2 a h2 (fun o ho => h1 o _ (hs.2.2.2 o ho))]
    exact a8 a h0 h1 h2
end VL
