/-! the kept laid upon the live, in the class -/
section VU
variable {g : e_G} {Ψ : e_Q} {B : Nat → Option e_Cl} {Z Z1 Z2 : k_Z} {P P1 P2 : k_P} {U U1 U2 : k_U} {r r1 r2 : Nat × Nat} {N own n m x t u : Nat} {so p v : Int32}
/-- the first shelf may change, all else stays -/
def Fl (own : Nat) (Z : k_Z) (P : k_P) (U : k_U) (r : Nat × Nat) (Z' : k_Z) (P' : k_P) (U' : k_U) (r' : Nat × Nat) : Prop :=
  (∀ a, Z.1 a ≠ 0 → Z'.1 a = Z.1 a) ∧ Z'.2 = Z.2 ∧ U'.1 = U.1 ∧ U'.2.1 = U.2.1 ∧ (∀ a, a ≠ own + 2 → U'.2.2 a = U.2.2 a) ∧ (∀ i x, U.2.2 (own + 2) i = some x → ∃ j, U'.2.2 (own + 2) j = some x) ∧
  (∀ f a, Z.1 a ≠ 0 → (∀ i, U'.2.2 (own + 2) i ≠ some a) → a ≠ own + 1 → P'.1 f a = P.1 f a) ∧ (∀ a, Z.1 a ≠ 0 → (∀ i x, U'.2.2 (own + 2) i = some x → a ≠ x + 1) → P'.2 a = P.2 a) ∧ r.1 ≤ r'.1 ∧ r.2 ≤ r'.2
theorem Fl.rf : Fl own Z P U r Z P U r := ⟨fun _ _ => rfl, rfl, rfl, rfl, fun _ _ => rfl, fun i x h => ⟨i, h⟩, fun _ _ _ _ _ => rfl, fun _ _ _ => rfl, Nat.le_refl _, Nat.le_refl _⟩
theorem Fl.size (h : Fl own Z P U r Z1 P1 U1 r1) : Fl own Z P U r Z1 (k_wr P1 161 (own + 1) v) U1 r1 := by
  obtain ⟨a1, a2, a3, a4, a5, a6, a7, a8, a9, b1⟩ := h
  exact ⟨a1, a2, a3, a4, a5, a6, fun f a h0 h1 h2 => by rw [k_wno (Or.inr h2)]; exact a7 f a h0 h1 h2, a8, a9, b1⟩
theorem Fl.put (E : k_E N own Z U r) (h : Fl own Z P U r Z1 P1 U1 r1) (pt : Pt N own (own + 1) m so p v Z1 P1 U1 r1 x Z2 P2 U2 r2) (hx : U1.2.2 (own + 1 + 1) m = some x ∨ x = r1.1 ∧ U1.2.2 (own + 1 + 1) m = none) : Fl own Z P U r Z2 P2 U2 r2 := by
  obtain ⟨a1, a2, a3, a4, a5, a6, a7, a8, a9, b1⟩ := h
  obtain ⟨E', tx, zz, z2, u1, u2, u3, u4, f1, f2, _, _, _, _, _, ro⟩ := pt
  have u3' : U2.2.2 (own + 2) = va_up (U1.2.2 (own + 2)) m (some x) := u3
  have keep : ∀ i y, U1.2.2 (own + 2) i = some y → ∃ j, U2.2.2 (own + 2) j = some y := fun i y h => by
    rw [u3']
    by_cases c : i = m
    · subst c
      rcases hx with z | ⟨_, z⟩
      · have z : U1.2.2 (own + 2) i = some x := z
        rw [h] at z
        cases z
        exact ⟨i, up_s⟩
      · have z : U1.2.2 (own + 2) i = none := z
        rw [h] at z; cases z
    · exact ⟨i, by rw [up_n c]; exact h⟩
  have lt : ∀ a, Z.1 a ≠ 0 → a < r1.1 := fun a h => by have := E.lt h; omega
  refine ⟨fun a h => ?_, z2.trans a2, u1.trans a3, u2.trans a4, fun a h => (u4 a (by omega)).trans (a5 a h), fun i y h => ?_, fun f a h0 h1 h2 => ?_, fun a h0 h1 => ?_, ?_, ?_⟩
  · have e := a1 a h
    exact (zz a (by rw [e]; exact h)).trans e
  · obtain ⟨j, hj⟩ := a6 i y h
    exact keep j y hj
  · rw [f1 f a (lt a h0) (fun z => h1 m (by rw [u3', up_s, z])) (Or.inr h2)]
    exact a7 f a h0 (fun i z => by obtain ⟨j, hj⟩ := keep i a z; exact h1 j hj) h2
  · rw [f2 a (lt a h0)]
    exact a8 a h0 (fun i y z => by obtain ⟨j, hj⟩ := keep i y z; exact h1 j y hj)
  · have := ro.1; omega
  · have := ro.2.1; omega
theorem cpF_r (hne : u ≠ t) : (∀ f, f = 220 ∨ f = 221 ∨ f = 222 ∨ f = 223 → (k_cpF P t u).1 f t = P.1 f u) ∧ (∀ i, i < 8 → (k_cpF P t u).2 (t + 1) i = P.2 (u + 1) i) ∧ (∀ f a, a ≠ t → (k_cpF P t u).1 f a = P.1 f a) ∧ ∀ a, a ≠ t + 1 → (k_cpF P t u).2 a = P.2 a := by
  unfold k_cpF k_rst
  refine ⟨fun f hf => ?_, fun i hi => ?_, fun f a h => ?_, fun a h => ?_⟩
  · rcases hf with h | h | h | h <;> subst h <;> simp (decide := true) only [k_a1, k_rn, k_rs, ne_eq, not_false_eq_true]
  · rw [k_as]
    simp only [e_cpy, va_cpy]
    rw [if_pos (by omega), Nat.sub_zero, Nat.zero_add]
  · rw [k_a1, k_wno (Or.inr h), k_wno (Or.inr h), k_wno (Or.inr h), k_wno (Or.inr h), k_wno (Or.inr h)]
  · rw [k_an h]; rfl
theorem s_copyS (hg : e_GK g) (E : k_E N own Z U r) (hs5 : k_Sh Z P U (own + 5) n)
    (q : ∀ Z' P' U' r', k_E N own Z' U' r' → k_Sh Z' P' U' (own + 1) n → (∀ o, o < n → (∀ f, f = 220 ∨ f = 221 ∨ f = 222 ∨ f = 223 → P'.1 f (k_th U' (own + 1) o) = P.1 f (k_th U (own + 5) o)) ∧ ∀ i, i < 8 → P'.2 (k_th U' (own + 1) o + 1) i = P.2 (k_th U (own + 5) o + 1) i) → Fl own Z P U r Z' P' U' r' → r'.1 ≤ r.1 + 2 * n → r'.2 ≤ r.2 + 13 * n → Ψ none (K_H Z' P' U' (B, r'))) :
    e_Sc g 51 [.ref (own + 1), .ref (own + 5)] (K_H Z P U (B, r)) Ψ := by
  have tO := E.2.1
  obtain ⟨a1, a2, a3, a4, a5, a6, a7, a8, a9, a10⟩ := E.1.hse tO
  have n40 := hs5.2.2.1
  have t2 := (E.1.shf a1).1
  have t6 := (E.1.shf a2).1
  have a1' : Z.1 (own + 1) = 9 := a1
  have a2' : Z.1 (own + 5) = 9 := a2
  have loop : ∀ k o Z1 P1 U1 r1 w3 w4, o + k = n → k_E N own Z1 U1 r1 → k_Sh Z1 P1 U1 (own + 1) o → (∀ q, q < o → (∀ f, f = 220 ∨ f = 221 ∨ f = 222 ∨ f = 223 → P1.1 f (k_th U1 (own + 1) q) = P.1 f (k_th U (own + 5) q)) ∧ ∀ i, i < 8 → P1.2 (k_th U1 (own + 1) q + 1) i = P.2 (k_th U (own + 5) q + 1) i) → Fl own Z P U r Z1 P1 U1 r1 → r1.1 ≤ r.1 + 2 * o → r1.2 ≤ r.2 + 13 * o →
      e_Sm g 51 8 cd51 Ψ 7 [some (.ref (own + 1)), some (.ref (own + 5)), some (.int (nI o)), w3, w4] [] (K_H Z1 P1 U1 (B, r1)) := by
    intro k
    induction k with
    | zero =>
      intro o Z1 P1 U1 r1 w3 w4 ho E1 hs1 hq fl h1 h2
      have eo : o = n := by omega
      subst eo
      have c2 : Z1.1 (own + 5) = 9 := by rw [fl.1 _ (by rw [a2]; decide)]; exact a2
      have t2' : Z1.1 (own + 2) = 20 := (E1.1.shf hs1.1).1
      have sz : P1.1 161 (own + 5) = nI o := by
        rw [fl.2.2.2.2.2.2.1 _ _ (by rw [a2]; decide) (fun i z => by have := E1.1.xth t2' z; rw [c2] at this; exact absurd this (by decide)) (by omega)]; exact hs5.2.1
      rw [u51_7]
      simp (decide := true) (disch := first | assumption | omega) only [↓u51_0, ↓u51_50, ↓u51_56, ↓x_nil, ↓x_om, ↓x_aload_0r, ↓x_aload_0n, ↓x_aload_0q, ↓x_iconst_0, ↓x_putfield, ft_8_24, x_fit0, x_fit1, x_fit2r, x_fit2n, x_fit2q, ↓x_istore_2, x_cl_i, x_cl_r, x_cl_n, x_cl_q, x_cl_0, x_cl_l, ↓x_iload_2, ↓x_aload_1r, ↓x_aload_1n, ↓x_aload_1q, ↓x_getfield, ↓x_icmp_ge, ↓x_invokevirtual, mt_8_28, x_ps0, x_ps1, x_l40, x_l41, x_l42, x_l43, x_l44, ↓x_cv1, ↓x_astore_3r, ↓x_astore_3n, ↓x_astore_3q, ↓x_iconst_m1, mt_8_129, ↓x_cv3, ↓x_astore_4r, ↓x_astore_4n, ↓x_astore_4q, ↓x_aload_4r, ↓x_aload_4n, ↓x_aload_4q, ↓x_ifnull_n, ↓x_ifnull_r, ↓x_ifnull_q, ↓x_aload_3r, ↓x_aload_3n, ↓x_aload_3q, mt_8_133, ↓x_iinc_2_1, ↓x_goto, ↓x_return, Int.reduceAdd, Nat.reduceAdd, true_and, and_true, true_or, or_true, false_or, or_false, reduceCtorEq, false_and, and_false, and_self, or_self, false_implies, true_implies, not_true_eq_false, not_false_eq_true, implies_true, Option.some.injEq, i_add, i_a1, i_m8, i_m5, i_m401, i_40, i_80, i_r40, i_s1, i_am1, i_sub, i_lt, i_le, i_eq, i_m1, il_le_0, il_ge_0, il_lt_0, il_gt_0, il_eq_0, il_le_1, il_ge_1, il_lt_1, il_gt_1, il_eq_1, il_le_2, il_ge_2, il_lt_2, il_gt_2, il_eq_2, il_le_3, il_ge_3, il_lt_3, il_gt_3, il_eq_3, il_le_4, il_ge_4, il_lt_4, il_gt_4, il_eq_4, il_le_5, il_ge_5, il_lt_5, il_gt_5, il_eq_5, il_le_6, il_ge_6, il_lt_6, il_gt_6, il_eq_6, il_le_7, il_ge_7, il_lt_7, il_gt_7, il_eq_7, il_le_8, il_ge_8, il_lt_8, il_gt_8, il_eq_8, il_le_12, il_ge_12, il_lt_12, il_gt_12, il_eq_12, il_le_16, il_ge_16, il_lt_16, il_gt_16, il_eq_16, il_le_20, il_ge_20, il_lt_20, il_gt_20, il_eq_20, il_le_21, il_ge_21, il_lt_21, il_gt_21, il_eq_21, il_le_40, il_ge_40, il_lt_40, il_gt_40, il_eq_40, il_le_100, il_ge_100, il_lt_100, il_gt_100, il_eq_100, il_le_120, il_ge_120, il_lt_120, il_gt_120, il_eq_120, il_le_200, il_ge_200, il_lt_200, il_gt_200, il_eq_200, il_le_400, il_ge_400, il_lt_400, il_gt_400, il_eq_400, il_le_700, il_ge_700, il_lt_700, il_gt_700, il_eq_700, sz, kg8, kv8_1, kw8_1, k_rs, k_rn, k_r2, k_c2, ki8, ki11, up_s, up_n]
      exact ⟨fun _ => q Z1 P1 U1 r1 E1 hs1 hq fl h1 h2, fun c => by omega⟩
    | succ k ih =>
      intro o Z1 P1 U1 r1 w3 w4 ho E1 hs1 hq fl h1 h2
      have c1 : Z1.1 (own + 1) = 9 := hs1.1
      have c2 : Z1.1 (own + 5) = 9 := by rw [fl.1 _ (by rw [a2]; decide)]; exact a2
      have t2' : Z1.1 (own + 2) = 20 := (E1.1.shf hs1.1).1
      have sz : P1.1 161 (own + 5) = nI n := by
        rw [fl.2.2.2.2.2.2.1 _ _ (by rw [a2]; decide) (fun i z => by have := E1.1.xth t2' z; rw [c2] at this; exact absurd this (by decide)) (by omega)]; exact hs5.2.1
      have u6 : U1.2.2 (own + 6) = U.2.2 (own + 6) := fl.2.2.2.2.1 _ (by omega)
      have th5 : ∀ q, k_th U1 (own + 5) q = k_th U (own + 5) q := fun q => by unfold k_th; rw [show own + 5 + 1 = own + 6 from rfl, u6]
      have hs5' : k_Sh Z1 P1 U1 (own + 5) n := ⟨c2, sz, n40, fun q hq => by rw [th5]; show U1.2.2 (own + 6) q = _; rw [u6]; exact hs5.2.2.2 q hq⟩
      obtain ⟨ut, uc⟩ := k_th_t E1.1 hs5' (show o < n by omega)
      rw [th5] at ut uc
      obtain ⟨ut0, uc0⟩ := k_th_t E.1 hs5 (show o < n by omega)
      rw [u51_7]
      simp (decide := true) (disch := first | assumption | omega) only [↓u51_0, ↓u51_56, ↓x_nil, ↓x_om, ↓x_aload_0r, ↓x_aload_0n, ↓x_aload_0q, ↓x_iconst_0, ↓x_putfield, ft_8_24, x_fit0, x_fit1, x_fit2r, x_fit2n, x_fit2q, ↓x_istore_2, x_cl_i, x_cl_r, x_cl_n, x_cl_q, x_cl_0, x_cl_l, ↓x_iload_2, ↓x_aload_1r, ↓x_aload_1n, ↓x_aload_1q, ↓x_getfield, ↓x_icmp_ge, ↓x_invokevirtual, mt_8_28, x_ps0, x_ps1, x_l40, x_l41, x_l42, x_l43, x_l44, ↓x_cv1, ↓x_astore_3r, ↓x_astore_3n, ↓x_astore_3q, ↓x_iconst_m1, mt_8_129, ↓x_cv3, ↓x_astore_4r, ↓x_astore_4n, ↓x_astore_4q, ↓x_aload_4r, ↓x_aload_4n, ↓x_aload_4q, ↓x_ifnull_n, ↓x_ifnull_r, ↓x_ifnull_q, ↓x_aload_3r, ↓x_aload_3n, ↓x_aload_3q, mt_8_133, ↓x_iinc_2_1, ↓x_goto, ↓x_return, Int.reduceAdd, Nat.reduceAdd, true_and, and_true, true_or, or_true, false_or, or_false, reduceCtorEq, false_and, and_false, and_self, or_self, false_implies, true_implies, not_true_eq_false, not_false_eq_true, implies_true, Option.some.injEq, i_add, i_a1, i_m8, i_m5, i_m401, i_40, i_80, i_r40, i_s1, i_am1, i_sub, i_lt, i_le, i_eq, i_m1, il_le_0, il_ge_0, il_lt_0, il_gt_0, il_eq_0, il_le_1, il_ge_1, il_lt_1, il_gt_1, il_eq_1, il_le_2, il_ge_2, il_lt_2, il_gt_2, il_eq_2, il_le_3, il_ge_3, il_lt_3, il_gt_3, il_eq_3, il_le_4, il_ge_4, il_lt_4, il_gt_4, il_eq_4, il_le_5, il_ge_5, il_lt_5, il_gt_5, il_eq_5, il_le_6, il_ge_6, il_lt_6, il_gt_6, il_eq_6, il_le_7, il_ge_7, il_lt_7, il_gt_7, il_eq_7, il_le_8, il_ge_8, il_lt_8, il_gt_8, il_eq_8, il_le_12, il_ge_12, il_lt_12, il_gt_12, il_eq_12, il_le_16, il_ge_16, il_lt_16, il_gt_16, il_eq_16, il_le_20, il_ge_20, il_lt_20, il_gt_20, il_eq_20, il_le_21, il_ge_21, il_lt_21, il_gt_21, il_eq_21, il_le_40, il_ge_40, il_lt_40, il_gt_40, il_eq_40, il_le_100, il_ge_100, il_lt_100, il_gt_100, il_eq_100, il_le_120, il_ge_120, il_lt_120, il_gt_120, il_eq_120, il_le_200, il_ge_200, il_lt_200, il_gt_200, il_eq_200, il_le_400, il_ge_400, il_lt_400, il_gt_400, il_eq_400, il_le_700, il_ge_700, il_lt_700, il_gt_700, il_eq_700, sz, kg8, kv8_1, kw8_1, k_rs, k_rn, k_r2, k_c2, ki8, ki11, up_s, up_n]
      refine ⟨fun c => by omega, fun _ => ?_⟩
      refine h_thingS hg E1.1 hs5' (show o < n by omega) ?_
      rw [th5]
      simp (decide := true) (disch := first | assumption | omega) only [↓u51_0, ↓u51_56, ↓x_nil, ↓x_om, ↓x_aload_0r, ↓x_aload_0n, ↓x_aload_0q, ↓x_iconst_0, ↓x_putfield, ft_8_24, x_fit0, x_fit1, x_fit2r, x_fit2n, x_fit2q, ↓x_istore_2, x_cl_i, x_cl_r, x_cl_n, x_cl_q, x_cl_0, x_cl_l, ↓x_iload_2, ↓x_aload_1r, ↓x_aload_1n, ↓x_aload_1q, ↓x_getfield, ↓x_icmp_ge, ↓x_invokevirtual, mt_8_28, x_ps0, x_ps1, x_l40, x_l41, x_l42, x_l43, x_l44, ↓x_cv1, ↓x_astore_3r, ↓x_astore_3n, ↓x_astore_3q, ↓x_iconst_m1, mt_8_129, ↓x_cv3, ↓x_astore_4r, ↓x_astore_4n, ↓x_astore_4q, ↓x_aload_4r, ↓x_aload_4n, ↓x_aload_4q, ↓x_ifnull_n, ↓x_ifnull_r, ↓x_ifnull_q, ↓x_aload_3r, ↓x_aload_3n, ↓x_aload_3q, mt_8_133, ↓x_iinc_2_1, ↓x_goto, ↓x_return, Int.reduceAdd, Nat.reduceAdd, true_and, and_true, true_or, or_true, false_or, or_false, reduceCtorEq, false_and, and_false, and_self, or_self, false_implies, true_implies, not_true_eq_false, not_false_eq_true, implies_true, Option.some.injEq, i_add, i_a1, i_m8, i_m5, i_m401, i_40, i_80, i_r40, i_s1, i_am1, i_sub, i_lt, i_le, i_eq, i_m1, il_le_0, il_ge_0, il_lt_0, il_gt_0, il_eq_0, il_le_1, il_ge_1, il_lt_1, il_gt_1, il_eq_1, il_le_2, il_ge_2, il_lt_2, il_gt_2, il_eq_2, il_le_3, il_ge_3, il_lt_3, il_gt_3, il_eq_3, il_le_4, il_ge_4, il_lt_4, il_gt_4, il_eq_4, il_le_5, il_ge_5, il_lt_5, il_gt_5, il_eq_5, il_le_6, il_ge_6, il_lt_6, il_gt_6, il_eq_6, il_le_7, il_ge_7, il_lt_7, il_gt_7, il_eq_7, il_le_8, il_ge_8, il_lt_8, il_gt_8, il_eq_8, il_le_12, il_ge_12, il_lt_12, il_gt_12, il_eq_12, il_le_16, il_ge_16, il_lt_16, il_gt_16, il_eq_16, il_le_20, il_ge_20, il_lt_20, il_gt_20, il_eq_20, il_le_21, il_ge_21, il_lt_21, il_gt_21, il_eq_21, il_le_40, il_ge_40, il_lt_40, il_gt_40, il_eq_40, il_le_100, il_ge_100, il_lt_100, il_gt_100, il_eq_100, il_le_120, il_ge_120, il_lt_120, il_gt_120, il_eq_120, il_le_200, il_ge_200, il_lt_200, il_gt_200, il_eq_200, il_le_400, il_ge_400, il_lt_400, il_gt_400, il_eq_400, il_le_700, il_ge_700, il_lt_700, il_gt_700, il_eq_700, kg8, kv8_1, kw8_1, k_rs, k_rn, k_r2, k_c2, ki8, ki11, up_s, up_n]
      refine s_put hg (m := r1.1) (sl := r1.2) E1 hs1 (by omega) (fun t Z2 P2 U2 r2 pt hx => ?_)
      have fl2 := fl.put E pt hx
      obtain ⟨E2, tt, zz, z2, v1, v2, v3, v4, f1, f2, _, _, _, _, p5, ro⟩ := pt
      have d1 : Z2.1 (own + 1) = 9 := by rw [zz _ (by rw [c1]; decide)]; exact c1
      have s2 := (E2.1.shf d1).1
      have v3' : U2.2.2 (own + 2) = va_up (U1.2.2 (own + 2)) o (some t) := v3
      have tho : k_th U2 (own + 1) o = t := by unfold k_th; rw [v3, up_s]; rfl
      have thq : ∀ q, q ≠ o → k_th U2 (own + 1) q = k_th U1 (own + 1) q := fun q h => by unfold k_th; rw [v3, up_n h]
      have k2 : k_Sh Z2 P2 U2 (own + 1) (o + 1) := ⟨d1, p5, by omega, fun q hq' => by
        by_cases c : q = o
        · subst c; rw [tho, v3, up_s]
        · rw [thq q c, v3, up_n c]; exact hs1.2.2.2 q (by omega)⟩
      have s6 : Z2.1 (own + 6) = 20 := by rw [fl2.1 _ (by rw [t6]; decide)]; exact t6
      have u6' : U2.2.2 (own + 6) = U.2.2 (own + 6) := fl2.2.2.2.2.1 _ (by omega)
      have une : k_th U (own + 5) o ≠ t := fun e => by
        have g1 : U2.2.2 (own + 6) o = some t := by rw [u6', ← e]; exact hs5.2.2.2 o (by omega)
        have g2 : U2.2.2 (own + 2) o = some t := by rw [v3', up_s]
        have := (E2.2.2.2.1 _ o _ o _ (Or.inl s6) (Or.inl s2) g1 g2).1
        omega
      have tc := E2.1.thg tt
      have tu : Z2.1 (k_th U (own + 5) o) = 12 := by rw [fl2.1 _ (by rw [ut0]; decide)]; exact ut0
      have tuc : Z2.1 (k_th U (own + 5) o + 1) = 108 := by rw [fl2.1 _ (by rw [uc0]; decide)]; exact uc0
      obtain ⟨x1, x2, x3, x4⟩ := cpF_r (P := P2) une
      -- the kept thing is as it was
      have ku : ∀ i, U2.2.2 (own + 2) i ≠ some (k_th U (own + 5) o) := fun i z => by
        have g1 : U2.2.2 (own + 6) o = some (k_th U (own + 5) o) := by rw [u6']; exact hs5.2.2.2 o (by omega)
        have := (E2.2.2.2.1 _ o _ i _ (Or.inl s6) (Or.inl s2) g1 z).1
        omega
      have kuP : ∀ f, P2.1 f (k_th U (own + 5) o) = P.1 f (k_th U (own + 5) o) := fun f => fl2.2.2.2.2.2.2.1 f _ (by rw [ut0]; decide) ku (fun z => by rw [z, a1] at ut0; exact absurd ut0 (by decide))
      have kuC : P2.2 (k_th U (own + 5) o + 1) = P.2 (k_th U (own + 5) o + 1) := fl2.2.2.2.2.2.2.2.1 _ (by rw [uc0]; decide) (fun i x z e => ku i (by rw [z]; congr 1; omega))
      have fl3 : Fl own Z P U r Z2 (k_cpF P2 t (k_th U (own + 5) o)) U2 r2 := by
        obtain ⟨y1, y2, y3, y4, y5, y6, y7, y8, y9, y10⟩ := fl2
        refine ⟨y1, y2, y3, y4, y5, y6, fun f a h0 h1 h2 => ?_, fun a h0 h1 => ?_, y9, y10⟩
        · rw [x3 f a (fun z => h1 o (by rw [v3', up_s, z]))]; exact y7 f a h0 h1 h2
        · rw [x4 a (h1 o t (by rw [v3', up_s]))]; exact y8 a h0 h1
      obtain ⟨o1, o2, o3, o4, _⟩ := ro
      rw [z2] at o3 o4
      dsimp only at o3 o4
      simp (decide := true) (disch := first | assumption | omega) only [↓u51_0, ↓u51_56, ↓x_nil, ↓x_om, ↓x_aload_0r, ↓x_aload_0n, ↓x_aload_0q, ↓x_iconst_0, ↓x_putfield, ft_8_24, x_fit0, x_fit1, x_fit2r, x_fit2n, x_fit2q, ↓x_istore_2, x_cl_i, x_cl_r, x_cl_n, x_cl_q, x_cl_0, x_cl_l, ↓x_iload_2, ↓x_aload_1r, ↓x_aload_1n, ↓x_aload_1q, ↓x_getfield, ↓x_icmp_ge, ↓x_invokevirtual, mt_8_28, x_ps0, x_ps1, x_l40, x_l41, x_l42, x_l43, x_l44, ↓x_cv1, ↓x_astore_3r, ↓x_astore_3n, ↓x_astore_3q, ↓x_iconst_m1, mt_8_129, ↓x_cv3, ↓x_astore_4r, ↓x_astore_4n, ↓x_astore_4q, ↓x_aload_4r, ↓x_aload_4n, ↓x_aload_4q, ↓x_ifnull_n, ↓x_ifnull_r, ↓x_ifnull_q, ↓x_aload_3r, ↓x_aload_3n, ↓x_aload_3q, mt_8_133, ↓x_iinc_2_1, ↓x_goto, ↓x_return, Int.reduceAdd, Nat.reduceAdd, true_and, and_true, true_or, or_true, false_or, or_false, reduceCtorEq, false_and, and_false, and_self, or_self, false_implies, true_implies, not_true_eq_false, not_false_eq_true, implies_true, Option.some.injEq, i_add, i_a1, i_m8, i_m5, i_m401, i_40, i_80, i_r40, i_s1, i_am1, i_sub, i_lt, i_le, i_eq, i_m1, il_le_0, il_ge_0, il_lt_0, il_gt_0, il_eq_0, il_le_1, il_ge_1, il_lt_1, il_gt_1, il_eq_1, il_le_2, il_ge_2, il_lt_2, il_gt_2, il_eq_2, il_le_3, il_ge_3, il_lt_3, il_gt_3, il_eq_3, il_le_4, il_ge_4, il_lt_4, il_gt_4, il_eq_4, il_le_5, il_ge_5, il_lt_5, il_gt_5, il_eq_5, il_le_6, il_ge_6, il_lt_6, il_gt_6, il_eq_6, il_le_7, il_ge_7, il_lt_7, il_gt_7, il_eq_7, il_le_8, il_ge_8, il_lt_8, il_gt_8, il_eq_8, il_le_12, il_ge_12, il_lt_12, il_gt_12, il_eq_12, il_le_16, il_ge_16, il_lt_16, il_gt_16, il_eq_16, il_le_20, il_ge_20, il_lt_20, il_gt_20, il_eq_20, il_le_21, il_ge_21, il_lt_21, il_gt_21, il_eq_21, il_le_40, il_ge_40, il_lt_40, il_gt_40, il_eq_40, il_le_100, il_ge_100, il_lt_100, il_gt_100, il_eq_100, il_le_120, il_ge_120, il_lt_120, il_gt_120, il_eq_120, il_le_200, il_ge_200, il_lt_200, il_gt_200, il_eq_200, il_le_400, il_ge_400, il_lt_400, il_gt_400, il_eq_400, il_le_700, il_ge_700, il_lt_700, il_gt_700, il_eq_700, kg8, kv8_1, kw8_1, k_rs, k_rn, k_r2, k_c2, ki8, ki11, up_s, up_n]
      refine h_thingS hg E2.1 k2 (show o < o + 1 by omega) ?_
      rw [tho]
      simp (decide := true) (disch := first | assumption | omega) only [↓u51_0, ↓u51_56, ↓x_nil, ↓x_om, ↓x_aload_0r, ↓x_aload_0n, ↓x_aload_0q, ↓x_iconst_0, ↓x_putfield, ft_8_24, x_fit0, x_fit1, x_fit2r, x_fit2n, x_fit2q, ↓x_istore_2, x_cl_i, x_cl_r, x_cl_n, x_cl_q, x_cl_0, x_cl_l, ↓x_iload_2, ↓x_aload_1r, ↓x_aload_1n, ↓x_aload_1q, ↓x_getfield, ↓x_icmp_ge, ↓x_invokevirtual, mt_8_28, x_ps0, x_ps1, x_l40, x_l41, x_l42, x_l43, x_l44, ↓x_cv1, ↓x_astore_3r, ↓x_astore_3n, ↓x_astore_3q, ↓x_iconst_m1, mt_8_129, ↓x_cv3, ↓x_astore_4r, ↓x_astore_4n, ↓x_astore_4q, ↓x_aload_4r, ↓x_aload_4n, ↓x_aload_4q, ↓x_ifnull_n, ↓x_ifnull_r, ↓x_ifnull_q, ↓x_aload_3r, ↓x_aload_3n, ↓x_aload_3q, mt_8_133, ↓x_iinc_2_1, ↓x_goto, ↓x_return, Int.reduceAdd, Nat.reduceAdd, true_and, and_true, true_or, or_true, false_or, or_false, reduceCtorEq, false_and, and_false, and_self, or_self, false_implies, true_implies, not_true_eq_false, not_false_eq_true, implies_true, Option.some.injEq, i_add, i_a1, i_m8, i_m5, i_m401, i_40, i_80, i_r40, i_s1, i_am1, i_sub, i_lt, i_le, i_eq, i_m1, il_le_0, il_ge_0, il_lt_0, il_gt_0, il_eq_0, il_le_1, il_ge_1, il_lt_1, il_gt_1, il_eq_1, il_le_2, il_ge_2, il_lt_2, il_gt_2, il_eq_2, il_le_3, il_ge_3, il_lt_3, il_gt_3, il_eq_3, il_le_4, il_ge_4, il_lt_4, il_gt_4, il_eq_4, il_le_5, il_ge_5, il_lt_5, il_gt_5, il_eq_5, il_le_6, il_ge_6, il_lt_6, il_gt_6, il_eq_6, il_le_7, il_ge_7, il_lt_7, il_gt_7, il_eq_7, il_le_8, il_ge_8, il_lt_8, il_gt_8, il_eq_8, il_le_12, il_ge_12, il_lt_12, il_gt_12, il_eq_12, il_le_16, il_ge_16, il_lt_16, il_gt_16, il_eq_16, il_le_20, il_ge_20, il_lt_20, il_gt_20, il_eq_20, il_le_21, il_ge_21, il_lt_21, il_gt_21, il_eq_21, il_le_40, il_ge_40, il_lt_40, il_gt_40, il_eq_40, il_le_100, il_ge_100, il_lt_100, il_gt_100, il_eq_100, il_le_120, il_ge_120, il_lt_120, il_gt_120, il_eq_120, il_le_200, il_ge_200, il_lt_200, il_gt_200, il_eq_200, il_le_400, il_ge_400, il_lt_400, il_gt_400, il_eq_400, il_le_700, il_ge_700, il_lt_700, il_gt_700, il_eq_700, kg8, kv8_1, kw8_1, k_rs, k_rn, k_r2, k_c2, ki8, ki11, up_s, up_n]
      refine h_copyFrom hg une tt tc tu tuc ?_
      simp (decide := true) (disch := first | assumption | omega) only [↓u51_0, ↓u51_56, ↓x_nil, ↓x_om, ↓x_aload_0r, ↓x_aload_0n, ↓x_aload_0q, ↓x_iconst_0, ↓x_putfield, ft_8_24, x_fit0, x_fit1, x_fit2r, x_fit2n, x_fit2q, ↓x_istore_2, x_cl_i, x_cl_r, x_cl_n, x_cl_q, x_cl_0, x_cl_l, ↓x_iload_2, ↓x_aload_1r, ↓x_aload_1n, ↓x_aload_1q, ↓x_getfield, ↓x_icmp_ge, ↓x_invokevirtual, mt_8_28, x_ps0, x_ps1, x_l40, x_l41, x_l42, x_l43, x_l44, ↓x_cv1, ↓x_astore_3r, ↓x_astore_3n, ↓x_astore_3q, ↓x_iconst_m1, mt_8_129, ↓x_cv3, ↓x_astore_4r, ↓x_astore_4n, ↓x_astore_4q, ↓x_aload_4r, ↓x_aload_4n, ↓x_aload_4q, ↓x_ifnull_n, ↓x_ifnull_r, ↓x_ifnull_q, ↓x_aload_3r, ↓x_aload_3n, ↓x_aload_3q, mt_8_133, ↓x_iinc_2_1, ↓x_goto, ↓x_return, Int.reduceAdd, Nat.reduceAdd, true_and, and_true, true_or, or_true, false_or, or_false, reduceCtorEq, false_and, and_false, and_self, or_self, false_implies, true_implies, not_true_eq_false, not_false_eq_true, implies_true, Option.some.injEq, i_add, i_a1, i_m8, i_m5, i_m401, i_40, i_80, i_r40, i_s1, i_am1, i_sub, i_lt, i_le, i_eq, i_m1, il_le_0, il_ge_0, il_lt_0, il_gt_0, il_eq_0, il_le_1, il_ge_1, il_lt_1, il_gt_1, il_eq_1, il_le_2, il_ge_2, il_lt_2, il_gt_2, il_eq_2, il_le_3, il_ge_3, il_lt_3, il_gt_3, il_eq_3, il_le_4, il_ge_4, il_lt_4, il_gt_4, il_eq_4, il_le_5, il_ge_5, il_lt_5, il_gt_5, il_eq_5, il_le_6, il_ge_6, il_lt_6, il_gt_6, il_eq_6, il_le_7, il_ge_7, il_lt_7, il_gt_7, il_eq_7, il_le_8, il_ge_8, il_lt_8, il_gt_8, il_eq_8, il_le_12, il_ge_12, il_lt_12, il_gt_12, il_eq_12, il_le_16, il_ge_16, il_lt_16, il_gt_16, il_eq_16, il_le_20, il_ge_20, il_lt_20, il_gt_20, il_eq_20, il_le_21, il_ge_21, il_lt_21, il_gt_21, il_eq_21, il_le_40, il_ge_40, il_lt_40, il_gt_40, il_eq_40, il_le_100, il_ge_100, il_lt_100, il_gt_100, il_eq_100, il_le_120, il_ge_120, il_lt_120, il_gt_120, il_eq_120, il_le_200, il_ge_200, il_lt_200, il_gt_200, il_eq_200, il_le_400, il_ge_400, il_lt_400, il_gt_400, il_eq_400, il_le_700, il_ge_700, il_lt_700, il_gt_700, il_eq_700, kg8, kv8_1, kw8_1, k_rs, k_rn, k_r2, k_c2, ki8, ki11, up_s, up_n]
      rw [u51_50]
      simp (decide := true) (disch := first | assumption | omega) only [↓u51_0, ↓u51_56, ↓x_nil, ↓x_om, ↓x_aload_0r, ↓x_aload_0n, ↓x_aload_0q, ↓x_iconst_0, ↓x_putfield, ft_8_24, x_fit0, x_fit1, x_fit2r, x_fit2n, x_fit2q, ↓x_istore_2, x_cl_i, x_cl_r, x_cl_n, x_cl_q, x_cl_0, x_cl_l, ↓x_iload_2, ↓x_aload_1r, ↓x_aload_1n, ↓x_aload_1q, ↓x_getfield, ↓x_icmp_ge, ↓x_invokevirtual, mt_8_28, x_ps0, x_ps1, x_l40, x_l41, x_l42, x_l43, x_l44, ↓x_cv1, ↓x_astore_3r, ↓x_astore_3n, ↓x_astore_3q, ↓x_iconst_m1, mt_8_129, ↓x_cv3, ↓x_astore_4r, ↓x_astore_4n, ↓x_astore_4q, ↓x_aload_4r, ↓x_aload_4n, ↓x_aload_4q, ↓x_ifnull_n, ↓x_ifnull_r, ↓x_ifnull_q, ↓x_aload_3r, ↓x_aload_3n, ↓x_aload_3q, mt_8_133, ↓x_iinc_2_1, ↓x_goto, ↓x_return, Int.reduceAdd, Nat.reduceAdd, true_and, and_true, true_or, or_true, false_or, or_false, reduceCtorEq, false_and, and_false, and_self, or_self, false_implies, true_implies, not_true_eq_false, not_false_eq_true, implies_true, Option.some.injEq, i_add, i_a1, i_m8, i_m5, i_m401, i_40, i_80, i_r40, i_s1, i_am1, i_sub, i_lt, i_le, i_eq, i_m1, il_le_0, il_ge_0, il_lt_0, il_gt_0, il_eq_0, il_le_1, il_ge_1, il_lt_1, il_gt_1, il_eq_1, il_le_2, il_ge_2, il_lt_2, il_gt_2, il_eq_2, il_le_3, il_ge_3, il_lt_3, il_gt_3, il_eq_3, il_le_4, il_ge_4, il_lt_4, il_gt_4, il_eq_4, il_le_5, il_ge_5, il_lt_5, il_gt_5, il_eq_5, il_le_6, il_ge_6, il_lt_6, il_gt_6, il_eq_6, il_le_7, il_ge_7, il_lt_7, il_gt_7, il_eq_7, il_le_8, il_ge_8, il_lt_8, il_gt_8, il_eq_8, il_le_12, il_ge_12, il_lt_12, il_gt_12, il_eq_12, il_le_16, il_ge_16, il_lt_16, il_gt_16, il_eq_16, il_le_20, il_ge_20, il_lt_20, il_gt_20, il_eq_20, il_le_21, il_ge_21, il_lt_21, il_gt_21, il_eq_21, il_le_40, il_ge_40, il_lt_40, il_gt_40, il_eq_40, il_le_100, il_ge_100, il_lt_100, il_gt_100, il_eq_100, il_le_120, il_ge_120, il_lt_120, il_gt_120, il_eq_120, il_le_200, il_ge_200, il_lt_200, il_gt_200, il_eq_200, il_le_400, il_ge_400, il_lt_400, il_gt_400, il_eq_400, il_le_700, il_ge_700, il_lt_700, il_gt_700, il_eq_700, kg8, kv8_1, kw8_1, k_rs, k_rn, k_r2, k_c2, ki8, ki11, up_s, up_n]
      have ts1 : t ≠ own + 1 := fun z => by rw [z, d1] at tt; exact absurd tt (by decide)
      refine ih (o + 1) Z2 _ U2 r2 _ _ (by omega) E2 (k2.keep (x3 _ _ (Ne.symm ts1))) (fun q hq' => ?_) fl3 (by omega) (by omega)
      by_cases c : q = o
      · subst c
        rw [tho]
        exact ⟨fun f hf => (x1 f hf).trans (kuP f), fun i hi => by rw [x2 i hi, kuC]⟩
      · obtain ⟨w1, w2⟩ := hq q (by omega)
        obtain ⟨qt, qc⟩ := k_th_t E1.1 hs1 (show q < o by omega)
        have qne : k_th U1 (own + 1) q ≠ t := fun e => by
          have g1 : U2.2.2 (own + 2) q = some t := by rw [v3', up_n c, ← e]; exact hs1.2.2.2 q (by omega)
          have g2 : U2.2.2 (own + 2) o = some t := by rw [v3', up_s]
          exact c (E2.2.2.2.1 _ q _ o _ (Or.inl s2) (Or.inl s2) g1 g2).2
        have ql : k_th U1 (own + 1) q < r1.1 := E1.lt (by rw [qt]; decide)
        have ql2 : k_th U1 (own + 1) q + 1 < r1.1 := E1.lt (by rw [qc]; decide)
        rw [thq q c]
        refine ⟨fun f hf => ?_, fun i hi => ?_⟩
        · rw [x3 f _ qne, f1 f _ ql qne (Or.inl (by rcases hf with h | h | h | h <;> subst h <;> decide))]; exact w1 f hf
        · rw [x4 _ (by omega), f2 _ ql2]; exact w2 i hi
  refine e_call (cd := cd51) hg ok51 (by rw [mL51]; exact Nat.le_of_ble_eq_true rfl) ?_
  rw [mL51]
  simp only [x_ini, x_inr, x_inn, x_inq, x_inl, x_in0, x_rp0, x_rps, Nat.reduceSub]
  simp (decide := true) (disch := first | assumption | omega) only [↓u51_0, ↓u51_50, ↓u51_56, ↓x_nil, ↓x_om, ↓x_aload_0r, ↓x_aload_0n, ↓x_aload_0q, ↓x_iconst_0, ↓x_putfield, ft_8_24, x_fit0, x_fit1, x_fit2r, x_fit2n, x_fit2q, ↓x_istore_2, x_cl_i, x_cl_r, x_cl_n, x_cl_q, x_cl_0, x_cl_l, ↓x_iload_2, ↓x_aload_1r, ↓x_aload_1n, ↓x_aload_1q, ↓x_getfield, ↓x_icmp_ge, ↓x_invokevirtual, mt_8_28, x_ps0, x_ps1, x_l40, x_l41, x_l42, x_l43, x_l44, ↓x_cv1, ↓x_astore_3r, ↓x_astore_3n, ↓x_astore_3q, ↓x_iconst_m1, mt_8_129, ↓x_cv3, ↓x_astore_4r, ↓x_astore_4n, ↓x_astore_4q, ↓x_aload_4r, ↓x_aload_4n, ↓x_aload_4q, ↓x_ifnull_n, ↓x_ifnull_r, ↓x_ifnull_q, ↓x_aload_3r, ↓x_aload_3n, ↓x_aload_3q, mt_8_133, ↓x_iinc_2_1, ↓x_goto, ↓x_return, Int.reduceAdd, Nat.reduceAdd, true_and, and_true, true_or, or_true, false_or, or_false, reduceCtorEq, false_and, and_false, and_self, or_self, false_implies, true_implies, not_true_eq_false, not_false_eq_true, implies_true, Option.some.injEq, kg8, kv8_1, kw8_1, k_rs, k_rn, k_r2, k_c2, ki8, ki11, up_s, up_n]
  exact loop n 0 Z _ U r _ _ (by omega) E ⟨a1, k_rs, by omega, fun o ho => by omega⟩ (fun q hq => by omega) Fl.rf.size (by omega) (by omega)
end VU
