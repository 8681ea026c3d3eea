section KN
variable {g : e_G} {Ψ : e_Q} {Z : k_Z} {P : k_P} {U : k_U} {B : Nat → Option e_Cl}
def k_H3 (Z : k_Z) (n : Nat) : k_Z := k_zS (k_zS (k_zS Z (n + 1)) (n + 5)) (n + 9)
def k_H7 (Z : k_Z) (n : Nat) : k_Z := k_zt (k_zt (k_zt (k_zt (k_H3 Z n) (n + 13) 21) (n + 14) 30) (n + 15) 30) (n + 16) 30
def k_H9 (Z : k_Z) (n : Nat) : k_Z := k_zQ (k_zG (k_H7 Z n) (n + 17)) (n + 19)
def k_HZ (Z : k_Z) (n : Nat) : k_Z := k_zt (k_zt (k_H9 Z n) (n + 25) 11) n 13
def k_HP (P : k_P) (n : Nat) : k_P := k_set1 (k_set1 (k_nQ (k_nG (k_nS (k_nS (k_nS P (n + 1)) (n + 5)) (n + 9)) (n + 17)) (n + 19)) (n + 25) (fun _ => 0)) n (fun f => if f = 251 then 200 else 0)
def k_HU (U : k_U) (n : Nat) : k_U := k_wl (k_wl (k_wl (k_wl (k_wx (k_uS (k_uS (k_uS U (n + 1)) (n + 5)) (n + 9)) (n + 13) (fun _ => none)) (n + 14) []) (n + 15) []) (n + 16) []) (n + 18) []
theorem z3 {n k : Nat} (h : Z.1 (n + k) = 0) (hk : k = 0 ∨ 13 ≤ k) : (k_H3 Z n).1 (n + k) = 0 := by
  unfold k_H3 k_zS k_zR
  iterate 12 rw [k_ztn (by omega)]
  exact h
theorem z7 {n k : Nat} (h : Z.1 (n + k) = 0) (hk : k = 0 ∨ 17 ≤ k) : (k_H7 Z n).1 (n + k) = 0 := by
  unfold k_H7
  iterate 4 rw [k_ztn (by omega)]
  exact z3 h (by omega)
theorem z9 {n k : Nat} (h : Z.1 (n + k) = 0) (hk : k = 0 ∨ 25 ≤ k) : (k_H9 Z n).1 (n + k) = 0 := by
  unfold k_H9 k_zQ k_zG
  iterate 8 rw [k_ztn (by omega)]
  exact z7 h (by omega)
theorem h_newHouse (hg : e_GK g) (hA : e_AK g) {n s : Nat} (t : ∀ k, k ≤ 25 → Z.1 (n + k) = 0) (c : ∀ k, k ≤ 25 → Z.2.1 (n + k) = 0) (q : Ψ none (K_H (k_HZ Z n) (k_HP P n) (k_HU U n) (B, (n + 26, s + 322)))) : e_Sc g 86 [.ref n] (K_H Z P U (va_up B n (some (e_O 12 (e_dv 12))), (n + 1, s))) Ψ := by
  have tn : Z.1 n = 0 := t 0 (by omega)
  have t1 : Z.1 (n + 1) = 0 := t 1 (by omega)
  refine e_call (cd := cd86) hg ok86 (by rw [mL86]; exact Nat.le_of_ble_eq_true rfl) ?_
  rw [mL86]
  simp only [x_ini, x_inr, x_inn, x_inq, x_inl, x_in0, x_rp0, x_rps, Nat.reduceSub]
  simp (decide := true) (disch := first | assumption | omega) only [↓u86_0, ↓x_nil, ↓x_om, ↓x_aload_0r, ↓x_aload_0n, ↓x_aload_0q, ↓x_invokespecial, mt_12_3, x_ps0, x_ps1, x_l40, x_l41, x_l42, x_l43, x_l44, ↓x_co, ↓x_new, ct_12_9, ↓x_dup_i, ↓x_dup_r, ↓x_dup_n, mt_12_11, ↓x_ci0_4, ↓x_putfield, ft_12_12, x_fit0, x_fit1, x_fit2r, x_fit2n, x_fit2q, ft_12_16, ft_12_19, ↓x_bipush_40, ↓x_anewarray, ↓x_an11, ↓x_an9, ct_12_22, ft_12_24, ct_12_28, mt_12_30, ↓x_ci0_2, ft_12_31, ft_12_35, ft_12_38, ct_12_41, mt_12_43, ft_12_44, ct_12_48, mt_12_50, ft_12_51, ct_12_55, mt_12_57, ft_12_58, ↓x_iconst_0, ft_12_62, ↓x_sipush_200, ft_12_66, ↓x_return, Int.reduceAdd, Nat.reduceAdd, true_and, and_true, true_or, or_true, false_or, or_false, reduceCtorEq, false_and, and_false, and_self, or_self, false_implies, true_implies, not_true_eq_false, not_false_eq_true, implies_true, Option.some.injEq, k_rg, k_rw, k_c2, k_alO, nf8, Nat.add_assoc, ki8, kg12, kv12_0, k_rs, k_rn, k_r2, k_c2, kv12_1, kv12_2, kv12_3, kiL30, kiL31, kiL32, kv12_4, kv12_5, kv12_6, ki4, kv12_7, ki6, kv12_8, ki10, kv12_9, kv12_10, kw12_10, kv12_11, kw12_11, up_s, up_n]
  refine h_newShelf hg t1 (t 2 (by omega)) (t 3 (by omega)) (t 4 (by omega)) ?_
  have f1 : ∀ k, k ≤ 25 → k = 0 ∨ 5 ≤ k → (k_zS Z (n + 1)).1 (n + k) = 0 := fun k h1 h2 => by
    unfold k_zS k_zR
    iterate 4 rw [k_ztn (by omega)]
    exact t k h1
  have f10 : (k_zS Z (n + 1)).1 n = 0 := f1 0 (by omega) (by omega)
  have f15 : (k_zS Z (n + 1)).1 (n + 5) = 0 := f1 5 (by omega) (by omega)
  simp (decide := true) (disch := first | assumption | omega) only [↓u86_0, ↓x_nil, ↓x_om, ↓x_aload_0r, ↓x_aload_0n, ↓x_aload_0q, ↓x_invokespecial, mt_12_3, x_ps0, x_ps1, x_l40, x_l41, x_l42, x_l43, x_l44, ↓x_co, ↓x_new, ct_12_9, ↓x_dup_i, ↓x_dup_r, ↓x_dup_n, mt_12_11, ↓x_ci0_4, ↓x_putfield, ft_12_12, x_fit0, x_fit1, x_fit2r, x_fit2n, x_fit2q, ft_12_16, ft_12_19, ↓x_bipush_40, ↓x_anewarray, ↓x_an11, ↓x_an9, ct_12_22, ft_12_24, ct_12_28, mt_12_30, ↓x_ci0_2, ft_12_31, ft_12_35, ft_12_38, ct_12_41, mt_12_43, ft_12_44, ct_12_48, mt_12_50, ft_12_51, ct_12_55, mt_12_57, ft_12_58, ↓x_iconst_0, ft_12_62, ↓x_sipush_200, ft_12_66, ↓x_return, Int.reduceAdd, Nat.reduceAdd, true_and, and_true, true_or, or_true, false_or, or_false, reduceCtorEq, false_and, and_false, and_self, or_self, false_implies, true_implies, not_true_eq_false, not_false_eq_true, implies_true, Option.some.injEq, k_rg, k_rw, k_c2, k_alO, nf8, Nat.add_assoc, ki8, kg12, kv12_0, k_rs, k_rn, k_r2, k_c2, kv12_1, kv12_2, kv12_3, kiL30, kiL31, kiL32, kv12_4, kv12_5, kv12_6, ki4, kv12_7, ki6, kv12_8, ki10, kv12_9, kv12_10, kw12_10, kv12_11, kw12_11, up_s, up_n]
  refine h_newShelf hg (f1 5 (by omega) (by omega)) (f1 6 (by omega) (by omega)) (f1 7 (by omega) (by omega)) (f1 8 (by omega) (by omega)) ?_
  have f2 : ∀ k, k ≤ 25 → k = 0 ∨ 9 ≤ k → (k_zS (k_zS Z (n + 1)) (n + 5)).1 (n + k) = 0 := fun k h1 h2 => by
    unfold k_zS k_zR
    iterate 8 rw [k_ztn (by omega)]
    exact t k h1
  have f20 : (k_zS (k_zS Z (n + 1)) (n + 5)).1 n = 0 := f2 0 (by omega) (by omega)
  have f29 : (k_zS (k_zS Z (n + 1)) (n + 5)).1 (n + 9) = 0 := f2 9 (by omega) (by omega)
  simp (decide := true) (disch := first | assumption | omega) only [↓u86_0, ↓x_nil, ↓x_om, ↓x_aload_0r, ↓x_aload_0n, ↓x_aload_0q, ↓x_invokespecial, mt_12_3, x_ps0, x_ps1, x_l40, x_l41, x_l42, x_l43, x_l44, ↓x_co, ↓x_new, ct_12_9, ↓x_dup_i, ↓x_dup_r, ↓x_dup_n, mt_12_11, ↓x_ci0_4, ↓x_putfield, ft_12_12, x_fit0, x_fit1, x_fit2r, x_fit2n, x_fit2q, ft_12_16, ft_12_19, ↓x_bipush_40, ↓x_anewarray, ↓x_an11, ↓x_an9, ct_12_22, ft_12_24, ct_12_28, mt_12_30, ↓x_ci0_2, ft_12_31, ft_12_35, ft_12_38, ct_12_41, mt_12_43, ft_12_44, ct_12_48, mt_12_50, ft_12_51, ct_12_55, mt_12_57, ft_12_58, ↓x_iconst_0, ft_12_62, ↓x_sipush_200, ft_12_66, ↓x_return, Int.reduceAdd, Nat.reduceAdd, true_and, and_true, true_or, or_true, false_or, or_false, reduceCtorEq, false_and, and_false, and_self, or_self, false_implies, true_implies, not_true_eq_false, not_false_eq_true, implies_true, Option.some.injEq, k_rg, k_rw, k_c2, k_alO, nf8, Nat.add_assoc, ki8, kg12, kv12_0, k_rs, k_rn, k_r2, k_c2, kv12_1, kv12_2, kv12_3, kiL30, kiL31, kiL32, kv12_4, kv12_5, kv12_6, ki4, kv12_7, ki6, kv12_8, ki10, kv12_9, kv12_10, kw12_10, kv12_11, kw12_11, up_s, up_n]
  refine h_newShelf hg (f2 9 (by omega) (by omega)) (f2 10 (by omega) (by omega)) (f2 11 (by omega) (by omega)) (f2 12 (by omega) (by omega)) ?_
  have f30 : (k_H3 Z n).1 n = 0 := z3 (k := 0) tn (by omega)
  have f313 : (k_H3 Z n).1 (n + 13) = 0 := z3 (t 13 (by omega)) (by omega)
  have g0 : (k_zt (k_H3 Z n) (n + 13) 21).1 n = 0 := by rw [k_ztn (by omega)]; exact f30
  have g14 : (k_zt (k_H3 Z n) (n + 13) 21).1 (n + 14) = 0 := by rw [k_ztn (by omega)]; exact z3 (t 14 (by omega)) (by omega)
  show e_exec _ _ _ _ _ _ _ (K_H (k_H3 Z n) (k_nS (k_nS (k_nS P (n + 1)) (n + 5)) (n + 9)) (k_uS (k_uS (k_uS U (n + 1)) (n + 5)) (n + 9)) _) _ _
  simp (decide := true) (disch := first | assumption | omega) only [↓u86_0, ↓x_nil, ↓x_om, ↓x_aload_0r, ↓x_aload_0n, ↓x_aload_0q, ↓x_invokespecial, mt_12_3, x_ps0, x_ps1, x_l40, x_l41, x_l42, x_l43, x_l44, ↓x_co, ↓x_new, ct_12_9, ↓x_dup_i, ↓x_dup_r, ↓x_dup_n, mt_12_11, ↓x_ci0_4, ↓x_putfield, ft_12_12, x_fit0, x_fit1, x_fit2r, x_fit2n, x_fit2q, ft_12_16, ft_12_19, ↓x_bipush_40, ↓x_anewarray, ↓x_an11, ↓x_an9, ct_12_22, ft_12_24, ct_12_28, mt_12_30, ↓x_ci0_2, ft_12_31, ft_12_35, ft_12_38, ct_12_41, mt_12_43, ft_12_44, ct_12_48, mt_12_50, ft_12_51, ct_12_55, mt_12_57, ft_12_58, ↓x_iconst_0, ft_12_62, ↓x_sipush_200, ft_12_66, ↓x_return, Int.reduceAdd, Nat.reduceAdd, true_and, and_true, true_or, or_true, false_or, or_false, reduceCtorEq, false_and, and_false, and_self, or_self, false_implies, true_implies, not_true_eq_false, not_false_eq_true, implies_true, Option.some.injEq, k_rg, k_rw, k_c2, k_alO, k_alR3, tc40, nf0, Nat.add_assoc, ki8, kg12, kv12_0, k_rs, k_rn, k_r2, k_c2, kv12_1, kv12_2, kv12_3, kiL30, kiL31, kiL32, kv12_4, kv12_5, kv12_6, ki4, kv12_7, ki6, kv12_8, ki10, kv12_9, kv12_10, kw12_10, kv12_11, kw12_11, up_s, up_n]
  refine l_new hA g14 (c 14 (by omega)) (show 30 ≤ 30 ∧ 30 ≤ 32 by omega) ?_
  have h0 : (k_zt (k_zt (k_H3 Z n) (n + 13) 21) (n + 14) 30).1 n = 0 := by rw [k_ztn (by omega)]; exact g0
  have h15 : (k_zt (k_zt (k_H3 Z n) (n + 13) 21) (n + 14) 30).1 (n + 15) = 0 := by rw [k_ztn (by omega), k_ztn (by omega)]; exact z3 (t 15 (by omega)) (by omega)
  simp (decide := true) (disch := first | assumption | omega) only [↓u86_0, ↓x_nil, ↓x_om, ↓x_aload_0r, ↓x_aload_0n, ↓x_aload_0q, ↓x_invokespecial, mt_12_3, x_ps0, x_ps1, x_l40, x_l41, x_l42, x_l43, x_l44, ↓x_co, ↓x_new, ct_12_9, ↓x_dup_i, ↓x_dup_r, ↓x_dup_n, mt_12_11, ↓x_ci0_4, ↓x_putfield, ft_12_12, x_fit0, x_fit1, x_fit2r, x_fit2n, x_fit2q, ft_12_16, ft_12_19, ↓x_bipush_40, ↓x_anewarray, ↓x_an11, ↓x_an9, ct_12_22, ft_12_24, ct_12_28, mt_12_30, ↓x_ci0_2, ft_12_31, ft_12_35, ft_12_38, ct_12_41, mt_12_43, ft_12_44, ct_12_48, mt_12_50, ft_12_51, ct_12_55, mt_12_57, ft_12_58, ↓x_iconst_0, ft_12_62, ↓x_sipush_200, ft_12_66, ↓x_return, Int.reduceAdd, Nat.reduceAdd, true_and, and_true, true_or, or_true, false_or, or_false, reduceCtorEq, false_and, and_false, and_self, or_self, false_implies, true_implies, not_true_eq_false, not_false_eq_true, implies_true, Option.some.injEq, k_rg, k_rw, k_c2, k_alO, nf0, Nat.add_assoc, ki8, kg12, kv12_0, k_rs, k_rn, k_r2, k_c2, kv12_1, kv12_2, kv12_3, kiL30, kiL31, kiL32, kv12_4, kv12_5, kv12_6, ki4, kv12_7, ki6, kv12_8, ki10, kv12_9, kv12_10, kw12_10, kv12_11, kw12_11, up_s, up_n]
  refine l_new hA h15 (c 15 (by omega)) (show 30 ≤ 30 ∧ 30 ≤ 32 by omega) ?_
  have i0 : (k_zt (k_zt (k_zt (k_H3 Z n) (n + 13) 21) (n + 14) 30) (n + 15) 30).1 n = 0 := by rw [k_ztn (by omega)]; exact h0
  have i16 : (k_zt (k_zt (k_zt (k_H3 Z n) (n + 13) 21) (n + 14) 30) (n + 15) 30).1 (n + 16) = 0 := by rw [k_ztn (by omega), k_ztn (by omega), k_ztn (by omega)]; exact z3 (t 16 (by omega)) (by omega)
  simp (decide := true) (disch := first | assumption | omega) only [↓u86_0, ↓x_nil, ↓x_om, ↓x_aload_0r, ↓x_aload_0n, ↓x_aload_0q, ↓x_invokespecial, mt_12_3, x_ps0, x_ps1, x_l40, x_l41, x_l42, x_l43, x_l44, ↓x_co, ↓x_new, ct_12_9, ↓x_dup_i, ↓x_dup_r, ↓x_dup_n, mt_12_11, ↓x_ci0_4, ↓x_putfield, ft_12_12, x_fit0, x_fit1, x_fit2r, x_fit2n, x_fit2q, ft_12_16, ft_12_19, ↓x_bipush_40, ↓x_anewarray, ↓x_an11, ↓x_an9, ct_12_22, ft_12_24, ct_12_28, mt_12_30, ↓x_ci0_2, ft_12_31, ft_12_35, ft_12_38, ct_12_41, mt_12_43, ft_12_44, ct_12_48, mt_12_50, ft_12_51, ct_12_55, mt_12_57, ft_12_58, ↓x_iconst_0, ft_12_62, ↓x_sipush_200, ft_12_66, ↓x_return, Int.reduceAdd, Nat.reduceAdd, true_and, and_true, true_or, or_true, false_or, or_false, reduceCtorEq, false_and, and_false, and_self, or_self, false_implies, true_implies, not_true_eq_false, not_false_eq_true, implies_true, Option.some.injEq, k_rg, k_rw, k_c2, k_alO, nf0, Nat.add_assoc, ki8, kg12, kv12_0, k_rs, k_rn, k_r2, k_c2, kv12_1, kv12_2, kv12_3, kiL30, kiL31, kiL32, kv12_4, kv12_5, kv12_6, ki4, kv12_7, ki6, kv12_8, ki10, kv12_9, kv12_10, kw12_10, kv12_11, kw12_11, up_s, up_n]
  refine l_new hA i16 (c 16 (by omega)) (show 30 ≤ 30 ∧ 30 ≤ 32 by omega) ?_
  have j0 : (k_H7 Z n).1 n = 0 := z7 (k := 0) tn (by omega)
  have j17 : (k_H7 Z n).1 (n + 17) = 0 := z7 (t 17 (by omega)) (by omega)
  have j18 : (k_H7 Z n).1 (n + 18) = 0 := z7 (t 18 (by omega)) (by omega)
  change e_exec _ _ _ _ _ _ _ (K_H (k_H7 Z n) _ _ _) _ _
  simp (decide := true) (disch := first | assumption | omega) only [↓u86_0, ↓x_nil, ↓x_om, ↓x_aload_0r, ↓x_aload_0n, ↓x_aload_0q, ↓x_invokespecial, mt_12_3, x_ps0, x_ps1, x_l40, x_l41, x_l42, x_l43, x_l44, ↓x_co, ↓x_new, ct_12_9, ↓x_dup_i, ↓x_dup_r, ↓x_dup_n, mt_12_11, ↓x_ci0_4, ↓x_putfield, ft_12_12, x_fit0, x_fit1, x_fit2r, x_fit2n, x_fit2q, ft_12_16, ft_12_19, ↓x_bipush_40, ↓x_anewarray, ↓x_an11, ↓x_an9, ct_12_22, ft_12_24, ct_12_28, mt_12_30, ↓x_ci0_2, ft_12_31, ft_12_35, ft_12_38, ct_12_41, mt_12_43, ft_12_44, ct_12_48, mt_12_50, ft_12_51, ct_12_55, mt_12_57, ft_12_58, ↓x_iconst_0, ft_12_62, ↓x_sipush_200, ft_12_66, ↓x_return, Int.reduceAdd, Nat.reduceAdd, true_and, and_true, true_or, or_true, false_or, or_false, reduceCtorEq, false_and, and_false, and_self, or_self, false_implies, true_implies, not_true_eq_false, not_false_eq_true, implies_true, Option.some.injEq, k_rg, k_rw, k_c2, k_alO, nf4, Nat.add_assoc, ki8, kg12, kv12_0, k_rs, k_rn, k_r2, k_c2, kv12_1, kv12_2, kv12_3, kiL30, kiL31, kiL32, kv12_4, kv12_5, kv12_6, ki4, kv12_7, ki6, kv12_8, ki10, kv12_9, kv12_10, kw12_10, kv12_11, kw12_11, up_s, up_n]
  refine h_newLog hg hA j17 j18 (c 18 (by omega)) ?_
  have l0 : (k_zG (k_H7 Z n) (n + 17)).1 n = 0 := by unfold k_zG; rw [k_ztn (by omega), k_ztn (by omega)]; exact j0
  have l19 : ∀ k, k ≤ 5 → (k_zG (k_H7 Z n) (n + 17)).1 (n + 19 + k) = 0 := fun k hk => by
    unfold k_zG
    rw [k_ztn (by omega), k_ztn (by omega), Nat.add_assoc]
    exact z7 (t (19 + k) (by omega)) (by omega)
  have l190 : (k_zG (k_H7 Z n) (n + 17)).1 (n + 19) = 0 := l19 0 (by omega)
  simp (decide := true) (disch := first | assumption | omega) only [↓u86_0, ↓x_nil, ↓x_om, ↓x_aload_0r, ↓x_aload_0n, ↓x_aload_0q, ↓x_invokespecial, mt_12_3, x_ps0, x_ps1, x_l40, x_l41, x_l42, x_l43, x_l44, ↓x_co, ↓x_new, ct_12_9, ↓x_dup_i, ↓x_dup_r, ↓x_dup_n, mt_12_11, ↓x_ci0_4, ↓x_putfield, ft_12_12, x_fit0, x_fit1, x_fit2r, x_fit2n, x_fit2q, ft_12_16, ft_12_19, ↓x_bipush_40, ↓x_anewarray, ↓x_an11, ↓x_an9, ct_12_22, ft_12_24, ct_12_28, mt_12_30, ↓x_ci0_2, ft_12_31, ft_12_35, ft_12_38, ct_12_41, mt_12_43, ft_12_44, ct_12_48, mt_12_50, ft_12_51, ct_12_55, mt_12_57, ft_12_58, ↓x_iconst_0, ft_12_62, ↓x_sipush_200, ft_12_66, ↓x_return, Int.reduceAdd, Nat.reduceAdd, true_and, and_true, true_or, or_true, false_or, or_false, reduceCtorEq, false_and, and_false, and_self, or_self, false_implies, true_implies, not_true_eq_false, not_false_eq_true, implies_true, Option.some.injEq, k_rg, k_rw, k_c2, k_alO, nf6, Nat.add_assoc, ki8, kg12, kv12_0, k_rs, k_rn, k_r2, k_c2, kv12_1, kv12_2, kv12_3, kiL30, kiL31, kiL32, kv12_4, kv12_5, kv12_6, ki4, kv12_7, ki6, kv12_8, ki10, kv12_9, kv12_10, kw12_10, kv12_11, kw12_11, up_s, up_n]
  refine h_newRing hg l19 ?_
  have m0 : (k_H9 Z n).1 n = 0 := z9 (k := 0) tn (by omega)
  have m25 : (k_H9 Z n).1 (n + 25) = 0 := z9 (t 25 (by omega)) (by omega)
  change e_exec _ _ _ _ _ _ _ (K_H (k_H9 Z n) _ _ _) _ _
  simp (decide := true) (disch := first | assumption | omega) only [↓u86_0, ↓x_nil, ↓x_om, ↓x_aload_0r, ↓x_aload_0n, ↓x_aload_0q, ↓x_invokespecial, mt_12_3, x_ps0, x_ps1, x_l40, x_l41, x_l42, x_l43, x_l44, ↓x_co, ↓x_new, ct_12_9, ↓x_dup_i, ↓x_dup_r, ↓x_dup_n, mt_12_11, ↓x_ci0_4, ↓x_putfield, ft_12_12, x_fit0, x_fit1, x_fit2r, x_fit2n, x_fit2q, ft_12_16, ft_12_19, ↓x_bipush_40, ↓x_anewarray, ↓x_an11, ↓x_an9, ct_12_22, ft_12_24, ct_12_28, mt_12_30, ↓x_ci0_2, ft_12_31, ft_12_35, ft_12_38, ct_12_41, mt_12_43, ft_12_44, ct_12_48, mt_12_50, ft_12_51, ct_12_55, mt_12_57, ft_12_58, ↓x_iconst_0, ft_12_62, ↓x_sipush_200, ft_12_66, ↓x_return, Int.reduceAdd, Nat.reduceAdd, true_and, and_true, true_or, or_true, false_or, or_false, reduceCtorEq, false_and, and_false, and_self, or_self, false_implies, true_implies, not_true_eq_false, not_false_eq_true, implies_true, Option.some.injEq, k_rg, k_rw, k_c2, k_alO, nf10, Nat.add_assoc, ki8, kg12, kv12_0, k_rs, k_rn, k_r2, k_c2, kv12_1, kv12_2, kv12_3, kiL30, kiL31, kiL32, kv12_4, kv12_5, kv12_6, ki4, kv12_7, ki6, kv12_8, ki10, kv12_9, kv12_10, kw12_10, kv12_11, kw12_11, up_s, up_n]
  refine h_newTally hg m25 ?_
  have o0 : (k_zt (k_H9 Z n) (n + 25) 11).1 n = 0 := by rw [k_ztn (by omega)]; exact m0
  simp (decide := true) (disch := first | assumption | omega) only [↓u86_0, ↓x_nil, ↓x_om, ↓x_aload_0r, ↓x_aload_0n, ↓x_aload_0q, ↓x_invokespecial, mt_12_3, x_ps0, x_ps1, x_l40, x_l41, x_l42, x_l43, x_l44, ↓x_co, ↓x_new, ct_12_9, ↓x_dup_i, ↓x_dup_r, ↓x_dup_n, mt_12_11, ↓x_ci0_4, ↓x_putfield, ft_12_12, x_fit0, x_fit1, x_fit2r, x_fit2n, x_fit2q, ft_12_16, ft_12_19, ↓x_bipush_40, ↓x_anewarray, ↓x_an11, ↓x_an9, ct_12_22, ft_12_24, ct_12_28, mt_12_30, ↓x_ci0_2, ft_12_31, ft_12_35, ft_12_38, ct_12_41, mt_12_43, ft_12_44, ct_12_48, mt_12_50, ft_12_51, ct_12_55, mt_12_57, ft_12_58, ↓x_iconst_0, ft_12_62, ↓x_sipush_200, ft_12_66, ↓x_return, Int.reduceAdd, Nat.reduceAdd, true_and, and_true, true_or, or_true, false_or, or_false, reduceCtorEq, false_and, and_false, and_self, or_self, false_implies, true_implies, not_true_eq_false, not_false_eq_true, implies_true, Option.some.injEq, k_rg, k_rw, k_c2, Nat.add_assoc, ki8, kg12, kv12_0, k_rs, k_rn, k_r2, k_c2, kv12_1, kv12_2, kv12_3, kiL30, kiL31, kiL32, kv12_4, kv12_5, kv12_6, ki4, kv12_7, ki6, kv12_8, ki10, kv12_9, kv12_10, kw12_10, kv12_11, kw12_11, up_s, up_n]
  rw [k_absO (c := 12) o0 (show (k_HZ Z n).1 n = 13 from k_zts) (by decide) (by decide) (Z' := k_HZ Z n) (P' := k_HP P n) (U' := k_HU U n)]
  · exact q
  · refine k_Vext (fun k hk => ?_) (fun k hk => ?_)
    · have hk : k = 0 ∨ k = 1 ∨ k = 2 ∨ k = 3 ∨ k = 4 ∨ k = 5 ∨ k = 6 ∨ k = 7 ∨ k = 8 ∨ k = 9 ∨ k = 10 ∨ k = 11 := by simp [k_K] at hk; omega
      rcases hk with rfl | rfl | rfl | rfl | rfl | rfl | rfl | rfl | rfl | rfl | rfl | rfl
      all_goals simp only [va_up, kv12_0, kv12_1, kv12_2, kv12_3, kv12_4, kv12_5, kv12_6, kv12_7, kv12_8, kv12_9, kv12_10, kv12_11, k_HP, k_s1s]
      all_goals rfl
    · have hk : 12 ≤ k := by simp [k_K] at hk; omega
      iterate 12 rw [up_n (by omega)]
  · exact fun b hb => ⟨k_ztn hb, rfl, rfl, fun f => k_s1n hb, rfl, rfl, rfl, rfl⟩
end KN
