/-! start: the class alone -/
section UC
variable {g : e_G} {Ψ : e_Q} {B : Nat → Option e_Cl} {Z : k_Z} {P : k_P} {U : k_U} {N own b l nr m sl : Nat} {rr tr : Int32}
theorem k_W.newD (w : k_W N Z U) (t0 : Z.1 m = 0) (t1 : Z.1 (m + 1) = 0) (t2 : Z.1 (m + 2) = 0) : k_W N (k_zD Z m) (k_ww U m none) := by
  have w0 : k_W N Z (k_ww U m none) := w.ww (fun y hy => by cases hy)
  have w1 := w0.leaf (tg := 2) t1 (by omega)
  have w2 := w1.leaf (tg := 105) (n := m + 2) (by rw [k_ztn (by omega)]; exact t2) (by omega)
  exact w2.zt (by rw [k_ztn (by omega), k_ztn (by omega)]; exact t0) (by omega) (fun h => by omega) (fun h => by omega) (fun h => by omega) (fun h => by omega) (fun _ => ⟨by rw [k_ztn (by omega), k_zts], k_zts⟩) (by omega) (fun h => by omega) (fun h => by omega) (fun h => by omega) (fun h => by omega) (fun _ => by unfold k_ww; dsimp only; rw [up_s]) (fun h => by omega)
/-- what start leaves: m the new deal, x its row -/
def St (Z : k_Z) (P : k_P) (U : k_U) (own b l nr m : Nat) (rr tr : Int32) (x : Nat) (Z' : k_Z) (P' : k_P) (U' : k_U) : Prop :=
  m + 3 ≤ x ∧ (∀ a, a < m → Z'.1 a = Z.1 a) ∧ Z'.2.2 = Z.2.2 ∧ (∀ f a, a < m → P'.1 f a = P.1 f a) ∧ (∀ a, a < m → P'.2 a = P.2 a) ∧ (∀ f, P'.1 f m = if f = 51 then nI nr else if f = 52 then nI l else k_deF (nI (b + 1)) rr tr f) ∧ (∀ f, P'.1 f x = k_rwF 1 (nI (b + 1)) (-1) (-1) 0 0 0 (-1) f) ∧
  (∀ a, a ≠ m → U'.1 a = U.1 a) ∧ U'.1 m = none ∧ U'.2.2 = U.2.2 ∧ (∀ a, a ≠ own + 14 → a ≠ own + 15 → a ≠ own + 18 → U'.2.1 a = U.2.1 a) ∧ U'.2.1 (own + 14) = U.2.1 (own + 14) ++ [m] ∧ U'.2.1 (own + 15) = U.2.1 (own + 15) ++ [m] ∧ U'.2.1 (own + 18) = U.2.1 (own + 18) ++ [x]
theorem h_start (hg : e_GK g) (hA : e_AK g) (E : k_E N own Z U (m, sl)) (h14 : (U.2.1 (own + 14)).length = b) (h15 : (U.2.1 (own + 15)).length = l) (h18 : (U.2.1 (own + 18)).length = nr) (hb : b ≤ 400) (hl : l ≤ 12) (hn : nr ≤ 1400)
    (q1 : b = 400 ∨ l = 12 → Ψ (some (.int (-3))) (K_H Z P U (B, (m, sl))))
    (q2 : ¬ (b = 400 ∨ l = 12) → ∀ Z' P' U' r' x, k_E N own Z' U' r' → St Z P U own b l nr m rr tr x Z' P' U' → k_ro N 4 60 Z.2.1 (m, sl) Z'.2.1 r' → Ψ (some (.int (nI (b + 1)))) (K_H Z' P' U' (B, r'))) :
    e_Sc g 132 [.ref own, .int rr, .int tr] (K_H Z P U (B, (m, sl))) Ψ := by
  have tO := E.2.1
  obtain ⟨a1, a2, a3, a4, a5, a6, a7, a8, a9, a10⟩ := E.1.hse tO
  have t18 : Z.1 (own + 18) = 32 := E.1.log a8
  have fr := E.2.2.1
  have tm : ∀ k, Z.1 (m + k) = 0 := fun k => (fr (m + k) (Nat.le_add_right _ _)).1
  have tm0 : Z.1 m = 0 := tm 0
  have lt : ∀ a, Z.1 a ≠ 0 → a < m := fun a h => E.lt h
  have o14 := lt (own + 14) (by rw [a5]; decide)
  have o15 := lt (own + 15) (by rw [a6]; decide)
  have o18 := lt (own + 18) (by rw [t18]; decide)
  have o17 := lt (own + 17) (by rw [a8]; decide)
  have oo := lt own (by rw [tO]; decide)
  refine e_call (cd := cd132) hg ok132 (by rw [mL132]; exact Nat.le_of_ble_eq_true rfl) ?_
  rw [mL132]
  simp only [x_ini, x_inr, x_inn, x_inq, x_inl, x_in0, x_rp0, x_rps, Nat.reduceSub]
  simp (decide := true) (disch := first | assumption | omega) only [↓u132_0, ↓u132_25, ↓x_nil, ↓x_om, ↓x_aload_0r, ↓x_aload_0n, ↓x_aload_0q, ↓x_getfield, ft_12_31, ↓x_invokevirtual, mt_12_165, x_ps0, x_ps1, x_l40, x_l41, x_l42, x_l43, x_l44, ↓x_cv0, ↓x_sipush_400, ↓x_icmp_ge, ft_12_35, ↓x_bipush_12, ↓x_icmp_lt, ↓x_bipush_m3, ↓x_ireturn, rt132, ↓x_new, ct_12_126, ↓x_dup_i, ↓x_dup_r, ↓x_dup_n, ↓x_iconst_1, ↓x_iadd, ↓x_iload_1, ↓x_iload_2, ↓x_invokespecial, mt_12_379, ↓x_ci3_2, ↓x_astore_3r, ↓x_astore_3n, ↓x_astore_3q, x_cl_i, x_cl_r, x_cl_n, x_cl_q, x_cl_0, x_cl_l, ↓x_aload_3r, ↓x_aload_3n, ↓x_aload_3q, ft_12_44, mt_12_176, ↓x_putfield, ft_12_381, x_fit0, x_fit1, x_fit2r, x_fit2n, x_fit2q, ft_12_384, mt_12_161, ↓x_cv1, ↓x_pop_i, ↓x_pop_r, ↓x_pop_n, ↓x_pop_q, ct_12_101, ft_12_170, ↓x_iconst_m1, ↓x_iconst_0, mt_12_103, ↓x_ci7_2, mt_12_106, Int.reduceAdd, Nat.reduceAdd, true_and, and_true, true_or, or_true, false_or, or_false, reduceCtorEq, false_and, and_false, and_self, or_self, false_implies, true_implies, not_true_eq_false, not_false_eq_true, implies_true, Option.some.injEq, kg12, kv12_4, kiL30, kiL31, kiL32, kv12_5, ki2, kv12_7, ki4, kg2, kv2_11, kw2_11, k_rs, k_rn, k_r2, k_c2, kv2_12, kw2_12, kv2_0, ki7, up_s, up_n]
  refine l_size hA (k_tL30 a5) ?_
  rw [h14]
  simp (decide := true) (disch := first | assumption | omega) only [↓u132_0, ↓u132_25, ↓x_nil, ↓x_om, ↓x_aload_0r, ↓x_aload_0n, ↓x_aload_0q, ↓x_getfield, ft_12_31, ↓x_invokevirtual, mt_12_165, x_ps0, x_ps1, x_l40, x_l41, x_l42, x_l43, x_l44, ↓x_cv0, ↓x_sipush_400, ↓x_icmp_ge, ft_12_35, ↓x_bipush_12, ↓x_icmp_lt, ↓x_bipush_m3, ↓x_ireturn, rt132, ↓x_new, ct_12_126, ↓x_dup_i, ↓x_dup_r, ↓x_dup_n, ↓x_iconst_1, ↓x_iadd, ↓x_iload_1, ↓x_iload_2, ↓x_invokespecial, mt_12_379, ↓x_ci3_2, ↓x_astore_3r, ↓x_astore_3n, ↓x_astore_3q, x_cl_i, x_cl_r, x_cl_n, x_cl_q, x_cl_0, x_cl_l, ↓x_aload_3r, ↓x_aload_3n, ↓x_aload_3q, ft_12_44, mt_12_176, ↓x_putfield, ft_12_381, x_fit0, x_fit1, x_fit2r, x_fit2n, x_fit2q, ft_12_384, mt_12_161, ↓x_cv1, ↓x_pop_i, ↓x_pop_r, ↓x_pop_n, ↓x_pop_q, ct_12_101, ft_12_170, ↓x_iconst_m1, ↓x_iconst_0, mt_12_103, ↓x_ci7_2, mt_12_106, Int.reduceAdd, Nat.reduceAdd, true_and, and_true, true_or, or_true, false_or, or_false, reduceCtorEq, false_and, and_false, and_self, or_self, false_implies, true_implies, not_true_eq_false, not_false_eq_true, implies_true, Option.some.injEq, i_add, i_a1, i_m8, i_m5, i_m401, i_40, i_80, i_r40, i_s1, i_am1, i_sub, i_lt, i_le, i_eq, i_m1, il_le_0, il_ge_0, il_lt_0, il_gt_0, il_eq_0, il_le_1, il_ge_1, il_lt_1, il_gt_1, il_eq_1, il_le_2, il_ge_2, il_lt_2, il_gt_2, il_eq_2, il_le_3, il_ge_3, il_lt_3, il_gt_3, il_eq_3, il_le_4, il_ge_4, il_lt_4, il_gt_4, il_eq_4, il_le_5, il_ge_5, il_lt_5, il_gt_5, il_eq_5, il_le_6, il_ge_6, il_lt_6, il_gt_6, il_eq_6, il_le_7, il_ge_7, il_lt_7, il_gt_7, il_eq_7, il_le_8, il_ge_8, il_lt_8, il_gt_8, il_eq_8, il_le_12, il_ge_12, il_lt_12, il_gt_12, il_eq_12, il_le_16, il_ge_16, il_lt_16, il_gt_16, il_eq_16, il_le_20, il_ge_20, il_lt_20, il_gt_20, il_eq_20, il_le_21, il_ge_21, il_lt_21, il_gt_21, il_eq_21, il_le_40, il_ge_40, il_lt_40, il_gt_40, il_eq_40, il_le_100, il_ge_100, il_lt_100, il_gt_100, il_eq_100, il_le_120, il_ge_120, il_lt_120, il_gt_120, il_eq_120, il_le_200, il_ge_200, il_lt_200, il_gt_200, il_eq_200, il_le_400, il_ge_400, il_lt_400, il_gt_400, il_eq_400, il_le_700, il_ge_700, il_lt_700, il_gt_700, il_eq_700, kg12, kv12_4, kiL30, kiL31, kiL32, kv12_5, ki2, kv12_7, ki4, kg2, kv2_11, kw2_11, k_rs, k_rn, k_r2, k_c2, kv2_12, kw2_12, kv2_0, ki7, up_s, up_n]
  refine ⟨fun c => q1 (Or.inl (by omega)), fun c => l_size hA (k_tL30 a6) ?_⟩
  rw [h15]
  simp (decide := true) (disch := first | assumption | omega) only [↓u132_0, ↓u132_25, ↓x_nil, ↓x_om, ↓x_aload_0r, ↓x_aload_0n, ↓x_aload_0q, ↓x_getfield, ft_12_31, ↓x_invokevirtual, mt_12_165, x_ps0, x_ps1, x_l40, x_l41, x_l42, x_l43, x_l44, ↓x_cv0, ↓x_sipush_400, ↓x_icmp_ge, ft_12_35, ↓x_bipush_12, ↓x_icmp_lt, ↓x_bipush_m3, ↓x_ireturn, rt132, ↓x_new, ct_12_126, ↓x_dup_i, ↓x_dup_r, ↓x_dup_n, ↓x_iconst_1, ↓x_iadd, ↓x_iload_1, ↓x_iload_2, ↓x_invokespecial, mt_12_379, ↓x_ci3_2, ↓x_astore_3r, ↓x_astore_3n, ↓x_astore_3q, x_cl_i, x_cl_r, x_cl_n, x_cl_q, x_cl_0, x_cl_l, ↓x_aload_3r, ↓x_aload_3n, ↓x_aload_3q, ft_12_44, mt_12_176, ↓x_putfield, ft_12_381, x_fit0, x_fit1, x_fit2r, x_fit2n, x_fit2q, ft_12_384, mt_12_161, ↓x_cv1, ↓x_pop_i, ↓x_pop_r, ↓x_pop_n, ↓x_pop_q, ct_12_101, ft_12_170, ↓x_iconst_m1, ↓x_iconst_0, mt_12_103, ↓x_ci7_2, mt_12_106, Int.reduceAdd, Nat.reduceAdd, true_and, and_true, true_or, or_true, false_or, or_false, reduceCtorEq, false_and, and_false, and_self, or_self, false_implies, true_implies, not_true_eq_false, not_false_eq_true, implies_true, Option.some.injEq, i_add, i_a1, i_m8, i_m5, i_m401, i_40, i_80, i_r40, i_s1, i_am1, i_sub, i_lt, i_le, i_eq, i_m1, il_le_0, il_ge_0, il_lt_0, il_gt_0, il_eq_0, il_le_1, il_ge_1, il_lt_1, il_gt_1, il_eq_1, il_le_2, il_ge_2, il_lt_2, il_gt_2, il_eq_2, il_le_3, il_ge_3, il_lt_3, il_gt_3, il_eq_3, il_le_4, il_ge_4, il_lt_4, il_gt_4, il_eq_4, il_le_5, il_ge_5, il_lt_5, il_gt_5, il_eq_5, il_le_6, il_ge_6, il_lt_6, il_gt_6, il_eq_6, il_le_7, il_ge_7, il_lt_7, il_gt_7, il_eq_7, il_le_8, il_ge_8, il_lt_8, il_gt_8, il_eq_8, il_le_12, il_ge_12, il_lt_12, il_gt_12, il_eq_12, il_le_16, il_ge_16, il_lt_16, il_gt_16, il_eq_16, il_le_20, il_ge_20, il_lt_20, il_gt_20, il_eq_20, il_le_21, il_ge_21, il_lt_21, il_gt_21, il_eq_21, il_le_40, il_ge_40, il_lt_40, il_gt_40, il_eq_40, il_le_100, il_ge_100, il_lt_100, il_gt_100, il_eq_100, il_le_120, il_ge_120, il_lt_120, il_gt_120, il_eq_120, il_le_200, il_ge_200, il_lt_200, il_gt_200, il_eq_200, il_le_400, il_ge_400, il_lt_400, il_gt_400, il_eq_400, il_le_700, il_ge_700, il_lt_700, il_gt_700, il_eq_700, kg12, kv12_4, kiL30, kiL31, kiL32, kv12_5, ki2, kv12_7, ki4, kg2, kv2_11, kw2_11, k_rs, k_rn, k_r2, k_c2, kv2_12, kw2_12, kv2_0, ki7, up_s, up_n]
  refine ⟨fun c2 => ?_, fun c2 => q1 (Or.inr (by omega))⟩
  have nf : ¬ (b = 400 ∨ l = 12) := by omega
  rw [u132_28]
  simp (decide := true) (disch := first | assumption | omega) only [↓u132_0, ↓u132_25, ↓u132_28, ↓x_nil, ↓x_om, ↓x_aload_0r, ↓x_aload_0n, ↓x_aload_0q, ↓x_getfield, ft_12_31, ↓x_invokevirtual, mt_12_165, x_ps0, x_ps1, x_l40, x_l41, x_l42, x_l43, x_l44, ↓x_cv0, ↓x_sipush_400, ↓x_icmp_ge, ft_12_35, ↓x_bipush_12, ↓x_icmp_lt, ↓x_bipush_m3, ↓x_ireturn, rt132, ↓x_new, ct_12_126, ↓x_dup_i, ↓x_dup_r, ↓x_dup_n, ↓x_iconst_1, ↓x_iadd, ↓x_iload_1, ↓x_iload_2, ↓x_invokespecial, mt_12_379, ↓x_ci3_2, ↓x_astore_3r, ↓x_astore_3n, ↓x_astore_3q, x_cl_i, x_cl_r, x_cl_n, x_cl_q, x_cl_0, x_cl_l, ↓x_aload_3r, ↓x_aload_3n, ↓x_aload_3q, ft_12_44, mt_12_176, ↓x_putfield, ft_12_381, x_fit0, x_fit1, x_fit2r, x_fit2n, x_fit2q, ft_12_384, mt_12_161, ↓x_cv1, ↓x_pop_i, ↓x_pop_r, ↓x_pop_n, ↓x_pop_q, ct_12_101, ft_12_170, ↓x_iconst_m1, ↓x_iconst_0, mt_12_103, ↓x_ci7_2, mt_12_106, Int.reduceAdd, Nat.reduceAdd, true_and, and_true, true_or, or_true, false_or, or_false, reduceCtorEq, false_and, and_false, and_self, or_self, false_implies, true_implies, not_true_eq_false, not_false_eq_true, implies_true, Option.some.injEq, k_alO, k_c2, kg12, kv12_4, kiL30, kiL31, kiL32, kv12_5, ki2, kv12_7, ki4, kg2, kv2_11, kw2_11, k_rs, k_rn, k_r2, k_c2, kv2_12, kw2_12, kv2_0, ki7, up_s, up_n]
  refine l_size hA (k_tL30 a5) ?_
  rw [h14]
  simp (decide := true) (disch := first | assumption | omega) only [↓u132_0, ↓u132_25, ↓u132_28, ↓x_nil, ↓x_om, ↓x_aload_0r, ↓x_aload_0n, ↓x_aload_0q, ↓x_getfield, ft_12_31, ↓x_invokevirtual, mt_12_165, x_ps0, x_ps1, x_l40, x_l41, x_l42, x_l43, x_l44, ↓x_cv0, ↓x_sipush_400, ↓x_icmp_ge, ft_12_35, ↓x_bipush_12, ↓x_icmp_lt, ↓x_bipush_m3, ↓x_ireturn, rt132, ↓x_new, ct_12_126, ↓x_dup_i, ↓x_dup_r, ↓x_dup_n, ↓x_iconst_1, ↓x_iadd, ↓x_iload_1, ↓x_iload_2, ↓x_invokespecial, mt_12_379, ↓x_ci3_2, ↓x_astore_3r, ↓x_astore_3n, ↓x_astore_3q, x_cl_i, x_cl_r, x_cl_n, x_cl_q, x_cl_0, x_cl_l, ↓x_aload_3r, ↓x_aload_3n, ↓x_aload_3q, ft_12_44, mt_12_176, ↓x_putfield, ft_12_381, x_fit0, x_fit1, x_fit2r, x_fit2n, x_fit2q, ft_12_384, mt_12_161, ↓x_cv1, ↓x_pop_i, ↓x_pop_r, ↓x_pop_n, ↓x_pop_q, ct_12_101, ft_12_170, ↓x_iconst_m1, ↓x_iconst_0, mt_12_103, ↓x_ci7_2, mt_12_106, Int.reduceAdd, Nat.reduceAdd, true_and, and_true, true_or, or_true, false_or, or_false, reduceCtorEq, false_and, and_false, and_self, or_self, false_implies, true_implies, not_true_eq_false, not_false_eq_true, implies_true, Option.some.injEq, i_a1, k_alO, k_c2, kg12, kv12_4, kiL30, kiL31, kiL32, kv12_5, ki2, kv12_7, ki4, kg2, kv2_11, kw2_11, k_rs, k_rn, k_r2, k_c2, kv2_12, kw2_12, kv2_0, ki7, up_s, up_n]
  refine h_newDeal hg tm0 (tm 1) (tm 2) ?_
  have w1 : k_W N (k_zD Z m) (k_ww U m none) := E.1.newD tm0 (tm 1) (tm 2)
  have zd : ∀ a, a < m → (k_zD Z m).1 a = Z.1 a := fun a h => by unfold k_zD; rw [k_ztn (by omega), k_ztn (by omega), k_ztn (by omega)]
  have zm : (k_zD Z m).1 m = 3 := by unfold k_zD; exact k_zts
  have zh : ∀ a, m + 3 ≤ a → (k_zD Z m).1 a = 0 := fun a h => by unfold k_zD; rw [k_ztn (by omega), k_ztn (by omega), k_ztn (by omega)]; exact (fr a (by omega)).1
  have z2 : (k_zD Z m).2 = Z.2 := rfl
  have p1 : ∀ f a, a < m → (k_nD P m (nI (b + 1)) rr tr).1 f a = P.1 f a := fun f a h => by unfold k_nD; rw [k_s1n (by omega), k_a1, k_s1n (by omega)]
  have p2 : ∀ a, a < m → (k_nD P m (nI (b + 1)) rr tr).2 a = P.2 a := fun a h => by unfold k_nD; show (k_wa _ (m + 2) _).2 a = _; rw [k_an (by omega)]; rfl
  have p3 : ∀ f, (k_nD P m (nI (b + 1)) rr tr).1 f m = k_deF (nI (b + 1)) rr tr f := fun f => by unfold k_nD; rw [k_s1s]
  have u0 : ∀ a, a ≠ m → (k_ww U m none).1 a = U.1 a := fun a h => by unfold k_ww; dsimp only; rw [up_n h]
  have u1 : (k_ww U m none).1 m = none := by unfold k_ww; dsimp only; rw [up_s]
  have u2 : (k_ww U m none).2 = U.2 := rfl
  generalize k_zD Z m = Z1 at *
  generalize k_nD P m (nI (b + 1)) rr tr = P1 at *
  generalize k_ww U m none = U1 at *
  have b0 : Z1.1 own = 13 := by rw [zd _ oo]; exact tO
  have b14 : Z1.1 (own + 14) = 30 := by rw [zd _ o14]; exact a5
  have b15 : Z1.1 (own + 15) = 30 := by rw [zd _ o15]; exact a6
  have b17 : Z1.1 (own + 17) = 5 := by rw [zd _ o17]; exact a8
  have b18 : Z1.1 (own + 18) = 32 := by rw [zd _ o18]; exact t18
  have zmD : Z1.1 m = 3 := zm
  simp (decide := true) (disch := first | assumption | omega) only [↓u132_0, ↓u132_25, ↓u132_28, ↓x_nil, ↓x_om, ↓x_aload_0r, ↓x_aload_0n, ↓x_aload_0q, ↓x_getfield, ft_12_31, ↓x_invokevirtual, mt_12_165, x_ps0, x_ps1, x_l40, x_l41, x_l42, x_l43, x_l44, ↓x_cv0, ↓x_sipush_400, ↓x_icmp_ge, ft_12_35, ↓x_bipush_12, ↓x_icmp_lt, ↓x_bipush_m3, ↓x_ireturn, rt132, ↓x_new, ct_12_126, ↓x_dup_i, ↓x_dup_r, ↓x_dup_n, ↓x_iconst_1, ↓x_iadd, ↓x_iload_1, ↓x_iload_2, ↓x_invokespecial, mt_12_379, ↓x_ci3_2, ↓x_astore_3r, ↓x_astore_3n, ↓x_astore_3q, x_cl_i, x_cl_r, x_cl_n, x_cl_q, x_cl_0, x_cl_l, ↓x_aload_3r, ↓x_aload_3n, ↓x_aload_3q, ft_12_44, mt_12_176, ↓x_putfield, ft_12_381, x_fit0, x_fit1, x_fit2r, x_fit2n, x_fit2q, ft_12_384, mt_12_161, ↓x_cv1, ↓x_pop_i, ↓x_pop_r, ↓x_pop_n, ↓x_pop_q, ct_12_101, ft_12_170, ↓x_iconst_m1, ↓x_iconst_0, mt_12_103, ↓x_ci7_2, mt_12_106, Int.reduceAdd, Nat.reduceAdd, true_and, and_true, true_or, or_true, false_or, or_false, reduceCtorEq, false_and, and_false, and_self, or_self, false_implies, true_implies, not_true_eq_false, not_false_eq_true, implies_true, Option.some.injEq, kg12, kv12_4, kiL30, kiL31, kiL32, kv12_5, ki2, kv12_7, ki4, kg2, kv2_11, kw2_11, k_rs, k_rn, k_r2, k_c2, kv2_12, kw2_12, kv2_0, ki7, up_s, up_n]
  refine h_logSize hg hA w1 b17 ?_
  rw [show own + 17 + 1 = own + 18 from rfl, u2, h18]
  simp (decide := true) (disch := first | assumption | omega) only [↓u132_0, ↓u132_25, ↓u132_28, ↓x_nil, ↓x_om, ↓x_aload_0r, ↓x_aload_0n, ↓x_aload_0q, ↓x_getfield, ft_12_31, ↓x_invokevirtual, mt_12_165, x_ps0, x_ps1, x_l40, x_l41, x_l42, x_l43, x_l44, ↓x_cv0, ↓x_sipush_400, ↓x_icmp_ge, ft_12_35, ↓x_bipush_12, ↓x_icmp_lt, ↓x_bipush_m3, ↓x_ireturn, rt132, ↓x_new, ct_12_126, ↓x_dup_i, ↓x_dup_r, ↓x_dup_n, ↓x_iconst_1, ↓x_iadd, ↓x_iload_1, ↓x_iload_2, ↓x_invokespecial, mt_12_379, ↓x_ci3_2, ↓x_astore_3r, ↓x_astore_3n, ↓x_astore_3q, x_cl_i, x_cl_r, x_cl_n, x_cl_q, x_cl_0, x_cl_l, ↓x_aload_3r, ↓x_aload_3n, ↓x_aload_3q, ft_12_44, mt_12_176, ↓x_putfield, ft_12_381, x_fit0, x_fit1, x_fit2r, x_fit2n, x_fit2q, ft_12_384, mt_12_161, ↓x_cv1, ↓x_pop_i, ↓x_pop_r, ↓x_pop_n, ↓x_pop_q, ct_12_101, ft_12_170, ↓x_iconst_m1, ↓x_iconst_0, mt_12_103, ↓x_ci7_2, mt_12_106, Int.reduceAdd, Nat.reduceAdd, true_and, and_true, true_or, or_true, false_or, or_false, reduceCtorEq, false_and, and_false, and_self, or_self, false_implies, true_implies, not_true_eq_false, not_false_eq_true, implies_true, Option.some.injEq, kg12, kv12_4, kiL30, kiL31, kiL32, kv12_5, ki2, kv12_7, ki4, kg2, kv2_11, kw2_11, k_rs, k_rn, k_r2, k_c2, kv2_12, kw2_12, kv2_0, ki7, up_s, up_n]
  refine l_size hA (k_tL30 b15) ?_
  rw [u2, h15]
  simp (decide := true) (disch := first | assumption | omega) only [↓u132_0, ↓u132_25, ↓u132_28, ↓x_nil, ↓x_om, ↓x_aload_0r, ↓x_aload_0n, ↓x_aload_0q, ↓x_getfield, ft_12_31, ↓x_invokevirtual, mt_12_165, x_ps0, x_ps1, x_l40, x_l41, x_l42, x_l43, x_l44, ↓x_cv0, ↓x_sipush_400, ↓x_icmp_ge, ft_12_35, ↓x_bipush_12, ↓x_icmp_lt, ↓x_bipush_m3, ↓x_ireturn, rt132, ↓x_new, ct_12_126, ↓x_dup_i, ↓x_dup_r, ↓x_dup_n, ↓x_iconst_1, ↓x_iadd, ↓x_iload_1, ↓x_iload_2, ↓x_invokespecial, mt_12_379, ↓x_ci3_2, ↓x_astore_3r, ↓x_astore_3n, ↓x_astore_3q, x_cl_i, x_cl_r, x_cl_n, x_cl_q, x_cl_0, x_cl_l, ↓x_aload_3r, ↓x_aload_3n, ↓x_aload_3q, ft_12_44, mt_12_176, ↓x_putfield, ft_12_381, x_fit0, x_fit1, x_fit2r, x_fit2n, x_fit2q, ft_12_384, mt_12_161, ↓x_cv1, ↓x_pop_i, ↓x_pop_r, ↓x_pop_n, ↓x_pop_q, ct_12_101, ft_12_170, ↓x_iconst_m1, ↓x_iconst_0, mt_12_103, ↓x_ci7_2, mt_12_106, Int.reduceAdd, Nat.reduceAdd, true_and, and_true, true_or, or_true, false_or, or_false, reduceCtorEq, false_and, and_false, and_self, or_self, false_implies, true_implies, not_true_eq_false, not_false_eq_true, implies_true, Option.some.injEq, kg12, kv12_4, kiL30, kiL31, kiL32, kv12_5, ki2, kv12_7, ki4, kg2, kv2_11, kw2_11, k_rs, k_rn, k_r2, k_c2, kv2_12, kw2_12, kv2_0, ki7, up_s, up_n]
  refine l_add hA (N := N) (c := 2) (k_tL30 b14) (w1.el30 b14) (w1.lN (k_tL30 b14)) (by rw [u2, h14]; omega) (w1.cap _).1 (w1.cap _).2 zm (by decide) (by decide) (fun C1 r1 hr1 => ?_)
  have w2 : k_W N (k_zc Z1 C1) (k_wl U1 (own + 14) (U1.2.1 (own + 14) ++ [m])) := (w1.wl (fun _ y hy => by
    rcases List.mem_append.mp hy with h | h
    · exact w1.lde b14 h
    · rw [List.mem_singleton] at h; rw [h]; exact zm) (fun h => by rw [b14] at h; exact absurd h (by decide)) (fun h => by rw [b14] at h; exact absurd h (by decide))).zc hr1
  have c0 : (k_zc Z1 C1).1 own = 13 := b0
  have c15 : (k_zc Z1 C1).1 (own + 15) = 30 := b15
  have cmD : (k_zc Z1 C1).1 m = 3 := zm
  simp (decide := true) (disch := first | assumption | omega) only [↓u132_0, ↓u132_25, ↓u132_28, ↓x_nil, ↓x_om, ↓x_aload_0r, ↓x_aload_0n, ↓x_aload_0q, ↓x_getfield, ft_12_31, ↓x_invokevirtual, mt_12_165, x_ps0, x_ps1, x_l40, x_l41, x_l42, x_l43, x_l44, ↓x_cv0, ↓x_sipush_400, ↓x_icmp_ge, ft_12_35, ↓x_bipush_12, ↓x_icmp_lt, ↓x_bipush_m3, ↓x_ireturn, rt132, ↓x_new, ct_12_126, ↓x_dup_i, ↓x_dup_r, ↓x_dup_n, ↓x_iconst_1, ↓x_iadd, ↓x_iload_1, ↓x_iload_2, ↓x_invokespecial, mt_12_379, ↓x_ci3_2, ↓x_astore_3r, ↓x_astore_3n, ↓x_astore_3q, x_cl_i, x_cl_r, x_cl_n, x_cl_q, x_cl_0, x_cl_l, ↓x_aload_3r, ↓x_aload_3n, ↓x_aload_3q, ft_12_44, mt_12_176, ↓x_putfield, ft_12_381, x_fit0, x_fit1, x_fit2r, x_fit2n, x_fit2q, ft_12_384, mt_12_161, ↓x_cv1, ↓x_pop_i, ↓x_pop_r, ↓x_pop_n, ↓x_pop_q, ct_12_101, ft_12_170, ↓x_iconst_m1, ↓x_iconst_0, mt_12_103, ↓x_ci7_2, mt_12_106, Int.reduceAdd, Nat.reduceAdd, true_and, and_true, true_or, or_true, false_or, or_false, reduceCtorEq, false_and, and_false, and_self, or_self, false_implies, true_implies, not_true_eq_false, not_false_eq_true, implies_true, Option.some.injEq, kg12, kv12_4, kiL30, kiL31, kiL32, kv12_5, ki2, kv12_7, ki4, kg2, kv2_11, kw2_11, k_rs, k_rn, k_r2, k_c2, kv2_12, kw2_12, kv2_0, ki7, up_s, up_n]
  refine l_add hA (N := N) (c := 2) (k_tL30 c15) (w2.el30 c15) (w2.lN (k_tL30 c15)) (by rw [k_ln (by omega), u2, h15]; omega) (w2.cap _).1 (w2.cap _).2 cmD (by decide) (by decide) (fun C2 r2 hr2 => ?_)
  have e15 : (k_wl U1 (own + 14) (U1.2.1 (own + 14) ++ [m])).2.1 (own + 15) = U.2.1 (own + 15) := by rw [k_ln (by omega), u2]
  rw [e15]
  have w3 : k_W N (k_zc (k_zc Z1 C1) C2) (k_wl (k_wl U1 (own + 14) (U1.2.1 (own + 14) ++ [m])) (own + 15) (U.2.1 (own + 15) ++ [m])) := (w2.wl (fun _ y hy => by
    rcases List.mem_append.mp hy with h | h
    · exact w1.lde b15 (by rw [u2]; exact h)
    · rw [List.mem_singleton] at h; rw [h]; exact zm) (fun h => by rw [c15] at h; exact absurd h (by decide)) (fun h => by rw [c15] at h; exact absurd h (by decide))).zc hr2
  have m3 : m + 3 ≤ r2.1 := Nat.le_trans hr1.1 hr2.1
  have tr0 : (k_zc (k_zc Z1 C1) C2).1 r2.1 = 0 := zh _ m3
  have d0 : (k_zc (k_zc Z1 C1) C2).1 own = 13 := b0
  have dm : (k_zc (k_zc Z1 C1) C2).1 m = 3 := zm
  have pn : (k_wr (k_wr P1 51 m (nI nr)) 52 m (nI l)).1 40 m = nI (b + 1) := by rw [k_rn (by decide), k_rn (by decide), p3]; rfl
  simp (decide := true) (disch := first | assumption | omega) only [↓u132_0, ↓u132_25, ↓u132_28, ↓x_nil, ↓x_om, ↓x_aload_0r, ↓x_aload_0n, ↓x_aload_0q, ↓x_getfield, ft_12_31, ↓x_invokevirtual, mt_12_165, x_ps0, x_ps1, x_l40, x_l41, x_l42, x_l43, x_l44, ↓x_cv0, ↓x_sipush_400, ↓x_icmp_ge, ft_12_35, ↓x_bipush_12, ↓x_icmp_lt, ↓x_bipush_m3, ↓x_ireturn, rt132, ↓x_new, ct_12_126, ↓x_dup_i, ↓x_dup_r, ↓x_dup_n, ↓x_iconst_1, ↓x_iadd, ↓x_iload_1, ↓x_iload_2, ↓x_invokespecial, mt_12_379, ↓x_ci3_2, ↓x_astore_3r, ↓x_astore_3n, ↓x_astore_3q, x_cl_i, x_cl_r, x_cl_n, x_cl_q, x_cl_0, x_cl_l, ↓x_aload_3r, ↓x_aload_3n, ↓x_aload_3q, ft_12_44, mt_12_176, ↓x_putfield, ft_12_381, x_fit0, x_fit1, x_fit2r, x_fit2n, x_fit2q, ft_12_384, mt_12_161, ↓x_cv1, ↓x_pop_i, ↓x_pop_r, ↓x_pop_n, ↓x_pop_q, ct_12_101, ft_12_170, ↓x_iconst_m1, ↓x_iconst_0, mt_12_103, ↓x_ci7_2, mt_12_106, Int.reduceAdd, Nat.reduceAdd, true_and, and_true, true_or, or_true, false_or, or_false, reduceCtorEq, false_and, and_false, and_self, or_self, false_implies, true_implies, not_true_eq_false, not_false_eq_true, implies_true, Option.some.injEq, pn, k_alO, nf7, k_c2, kg12, kv12_4, kiL30, kiL31, kiL32, kv12_5, ki2, kv12_7, ki4, kg2, kv2_11, kw2_11, k_rs, k_rn, k_r2, k_c2, kv2_12, kw2_12, kv2_0, ki7, up_s, up_n]
  refine h_newRow hg tr0 ?_
  have w4 : k_W N (k_zt (k_zc (k_zc Z1 C1) C2) r2.1 8) (k_wl (k_wl U1 (own + 14) (U1.2.1 (own + 14) ++ [m])) (own + 15) (U.2.1 (own + 15) ++ [m])) := w3.leaf tr0 (by omega)
  have zt : ∀ a, a < r2.1 → (k_zt (k_zc (k_zc Z1 C1) C2) r2.1 8).1 a = Z1.1 a := fun a h => k_ztn (by omega)
  have f0 : (k_zt (k_zc (k_zc Z1 C1) C2) r2.1 8).1 own = 13 := by rw [zt _ (by omega)]; exact b0
  have f17 : (k_zt (k_zc (k_zc Z1 C1) C2) r2.1 8).1 (own + 17) = 5 := by rw [zt _ (by omega)]; exact b17
  have fx : (k_zt (k_zc (k_zc Z1 C1) C2) r2.1 8).1 r2.1 = 8 := k_zts
  have fm : (k_zt (k_zc (k_zc Z1 C1) C2) r2.1 8).1 m = 3 := by rw [zt _ (by omega)]; exact zm
  have e18 : (k_wl (k_wl U1 (own + 14) (U1.2.1 (own + 14) ++ [m])) (own + 15) (U.2.1 (own + 15) ++ [m])).2.1 (own + 17 + 1) = U.2.1 (own + 18) := by rw [k_ln (by omega), k_ln (by omega), u2]
  simp (decide := true) (disch := first | assumption | omega) only [↓u132_0, ↓u132_25, ↓u132_28, ↓x_nil, ↓x_om, ↓x_aload_0r, ↓x_aload_0n, ↓x_aload_0q, ↓x_getfield, ft_12_31, ↓x_invokevirtual, mt_12_165, x_ps0, x_ps1, x_l40, x_l41, x_l42, x_l43, x_l44, ↓x_cv0, ↓x_sipush_400, ↓x_icmp_ge, ft_12_35, ↓x_bipush_12, ↓x_icmp_lt, ↓x_bipush_m3, ↓x_ireturn, rt132, ↓x_new, ct_12_126, ↓x_dup_i, ↓x_dup_r, ↓x_dup_n, ↓x_iconst_1, ↓x_iadd, ↓x_iload_1, ↓x_iload_2, ↓x_invokespecial, mt_12_379, ↓x_ci3_2, ↓x_astore_3r, ↓x_astore_3n, ↓x_astore_3q, x_cl_i, x_cl_r, x_cl_n, x_cl_q, x_cl_0, x_cl_l, ↓x_aload_3r, ↓x_aload_3n, ↓x_aload_3q, ft_12_44, mt_12_176, ↓x_putfield, ft_12_381, x_fit0, x_fit1, x_fit2r, x_fit2n, x_fit2q, ft_12_384, mt_12_161, ↓x_cv1, ↓x_pop_i, ↓x_pop_r, ↓x_pop_n, ↓x_pop_q, ct_12_101, ft_12_170, ↓x_iconst_m1, ↓x_iconst_0, mt_12_103, ↓x_ci7_2, mt_12_106, Int.reduceAdd, Nat.reduceAdd, true_and, and_true, true_or, or_true, false_or, or_false, reduceCtorEq, false_and, and_false, and_self, or_self, false_implies, true_implies, not_true_eq_false, not_false_eq_true, implies_true, Option.some.injEq, k_alO, nf7, k_c2, kg12, kv12_4, kiL30, kiL31, kiL32, kv12_5, ki2, kv12_7, ki4, kg2, kv2_11, kw2_11, k_rs, k_rn, k_r2, k_c2, kv2_12, kw2_12, kv2_0, ki7, up_s, up_n]
  refine h_append hg hA w4 f17 fx (by rw [e18, h18]; omega) (fun C3 r3 hr3 => ?_)
  rw [e18]
  have pn2 : (k_set1 (k_wr (k_wr P1 51 m (nI nr)) 52 m (nI l)) r2.1 (k_rwF 1 (nI (b + 1)) (-1) (-1) 0 0 0 (-1))).1 40 m = nI (b + 1) := by rw [k_s1n (by omega)]; exact pn
  have fm3 : (k_zc (k_zt (k_zc (k_zc Z1 C1) C2) r2.1 8) C3).1 m = 3 := fm
  simp (decide := true) (disch := first | assumption | omega) only [↓u132_0, ↓u132_25, ↓u132_28, ↓x_nil, ↓x_om, ↓x_aload_0r, ↓x_aload_0n, ↓x_aload_0q, ↓x_getfield, ft_12_31, ↓x_invokevirtual, mt_12_165, x_ps0, x_ps1, x_l40, x_l41, x_l42, x_l43, x_l44, ↓x_cv0, ↓x_sipush_400, ↓x_icmp_ge, ft_12_35, ↓x_bipush_12, ↓x_icmp_lt, ↓x_bipush_m3, ↓x_ireturn, rt132, ↓x_new, ct_12_126, ↓x_dup_i, ↓x_dup_r, ↓x_dup_n, ↓x_iconst_1, ↓x_iadd, ↓x_iload_1, ↓x_iload_2, ↓x_invokespecial, mt_12_379, ↓x_ci3_2, ↓x_astore_3r, ↓x_astore_3n, ↓x_astore_3q, x_cl_i, x_cl_r, x_cl_n, x_cl_q, x_cl_0, x_cl_l, ↓x_aload_3r, ↓x_aload_3n, ↓x_aload_3q, ft_12_44, mt_12_176, ↓x_putfield, ft_12_381, x_fit0, x_fit1, x_fit2r, x_fit2n, x_fit2q, ft_12_384, mt_12_161, ↓x_cv1, ↓x_pop_i, ↓x_pop_r, ↓x_pop_n, ↓x_pop_q, ct_12_101, ft_12_170, ↓x_iconst_m1, ↓x_iconst_0, mt_12_103, ↓x_ci7_2, mt_12_106, Int.reduceAdd, Nat.reduceAdd, true_and, and_true, true_or, or_true, false_or, or_false, reduceCtorEq, false_and, and_false, and_self, or_self, false_implies, true_implies, not_true_eq_false, not_false_eq_true, implies_true, Option.some.injEq, pn2, kg12, kv12_4, kiL30, kiL31, kiL32, kv12_5, ki2, kv12_7, ki4, kg2, kv2_11, kw2_11, k_rs, k_rn, k_r2, k_c2, kv2_12, kw2_12, kv2_0, ki7, up_s, up_n]
  refine q2 nf _ _ _ r3 r2.1 ?_ ⟨m3, fun a h => (zt a (by omega)).trans (zd a h), (by show Z1.2.2 = Z.2.2; rw [z2]), fun f a h => ?_, fun a h => ?_, fun f => ?_, fun f => k_s1s, fun a h => u0 a h, u1, ?_, fun a h1 h2 h3 => ?_, ?_, ?_, ?_⟩ ?_
  · refine ⟨?_, ?_, fun a ha => ?_, fun a i a' i' x y1 y2 y3 y4 => ?_, ?_⟩
    · refine k_W.zc (k_W.wl w4 (fun h => ?_) (fun h => ?_) (fun _ y hy => ?_)) hr3
      · rw [show own + 17 + 1 = own + 18 from rfl, zt _ (by omega), b18] at h; exact absurd h (by decide)
      · rw [show own + 17 + 1 = own + 18 from rfl, zt _ (by omega), b18] at h; exact absurd h (by decide)
      · rcases List.mem_append.mp hy with h | h
        · have := E.1.lro t18 h
          have yl := lt y (by rw [this]; decide)
          rw [zt _ (by omega), zd _ yl]; exact this
        · rw [List.mem_singleton] at h; rw [h]; exact fx
    · exact f0
    · have ha' : r2.1 + 1 ≤ a := Nat.le_trans hr3.1 ha
      refine ⟨?_, ?_⟩
      · show (k_zt (k_zc (k_zc Z1 C1) C2) r2.1 8).1 a = 0
        rw [k_ztn (by omega)]
        exact zh a (by omega)
      · have z3 : ∀ (C C' : Nat → Nat) (r r' : Nat × Nat), k_ro N 0 0 C r C' r' → C a = 0 → C' a = 0 := fun C C' r r' h h0 => by
          rw [E.ro h (by show m ≤ a; omega)]; exact h0
        exact z3 _ _ _ _ hr3 (z3 _ _ _ _ hr2 (z3 _ _ _ _ hr1 (by rw [z2]; exact (fr a (by omega)).2)))
    · have tt : ∀ a, ((k_zc (k_zt (k_zc (k_zc Z1 C1) C2) r2.1 8) C3).1 a = 20 ∨ (k_zc (k_zt (k_zc (k_zc Z1 C1) C2) r2.1 8) C3).1 a = 21) → Z.1 a = 20 ∨ Z.1 a = 21 := fun a h => by
        by_cases ca : a = r2.1
        · rw [ca] at h
          rcases h with h | h
          · exact absurd (fx.symm.trans h) (by decide)
          · exact absurd (fx.symm.trans h) (by decide)
        · have h' : Z1.1 a = 20 ∨ Z1.1 a = 21 := by
            have e : (k_zc (k_zt (k_zc (k_zc Z1 C1) C2) r2.1 8) C3).1 a = Z1.1 a := k_ztn ca
            rw [e] at h; exact h
          by_cases cl : a < m
          · rw [zd a cl] at h'; exact h'
          · by_cases c3 : m + 3 ≤ a
            · rw [zh a c3] at h'; exact absurd h' (by decide)
            · exfalso
              have : a = m ∨ a = m + 1 ∨ a = m + 2 := by omega
              rcases this with e | e | e
              · rw [e, zm] at h'; exact absurd h' (by decide)
              · have := (w1.dea zm).1
                rw [e, this] at h'; exact absurd h' (by decide)
              · have := (w1.dea zm).2
                rw [e, this] at h'; exact absurd h' (by decide)
      have e22 : ∀ a i, (k_wl (k_wl (k_wl U1 (own + 14) (U1.2.1 (own + 14) ++ [m])) (own + 15) (U.2.1 (own + 15) ++ [m])) (own + 17 + 1) (U.2.1 (own + 18) ++ [r2.1])).2.2 a i = U.2.2 a i := fun a i => by
        show U1.2.2 a i = U.2.2 a i
        rw [u2]
      rw [e22] at y3 y4
      exact E.2.2.2.1 a i a' i' x (tt a y1) (tt a' y2) y3 y4
    · have h3 : r2.1 + 1 ≤ r3.1 := hr3.1
      refine E.2.2.2.2.cg (by show m ≤ r3.1; omega) (fun a ha => ?_) ?_
      · have ha : a < m := ha
        exact (k_ztn (by omega)).trans (zd a ha)
      · show U1.2.2 (own + 13) = U.2.2 (own + 13)
        rw [u2]
  · rw [k_s1n (by omega)]
    by_cases c1 : f = 52
    · subst c1; rw [k_ra (by omega), k_rn (by decide)]; exact p1 _ a h
    · rw [k_rn c1]
      by_cases c2 : f = 51
      · subst c2; rw [k_ra (by omega)]; exact p1 _ a h
      · rw [k_rn c2]; exact p1 _ a h
  · exact p2 a h
  · rw [k_s1n (by omega)]
    by_cases c1 : f = 52
    · subst c1; rw [k_rs, if_neg (by decide), if_pos rfl]
    · rw [k_rn c1]
      by_cases c2 : f = 51
      · subst c2; rw [k_rs, if_pos rfl]
      · rw [k_rn c2, if_neg c2, if_neg c1]; exact p3 f
  · show U1.2.2 = U.2.2
    rw [u2]
  · rw [k_ln h3, k_ln h2, k_ln h1, u2]
  · rw [k_ln (by omega), k_ln (by omega), k_ls, u2]
  · rw [k_ln (by omega), k_ls]
  · exact k_ls
  · have h1 := hr1
    rw [z2] at h1
    have h1' : k_ro N 0 0 Z.2.1 ((m, sl).1 + 3, (m, sl).2 + (e_nf 2 + 11)) C1 r1 := by rw [← Nat.add_assoc]; exact h1
    have hn2 : e_nf 2 ≤ 30 := by decide
    have hh := ((k_ro.new 3 (e_nf 2 + 11)).tr h1').tr (hr2.tr ((k_ro.new 1 10).tr hr3))
    exact hh.le (by omega) (by omega)
end UC
