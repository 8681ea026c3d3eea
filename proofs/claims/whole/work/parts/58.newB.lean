/-! new deals, spots, shelves, a new house -/
section KL
variable {g : e_G} {Ψ : e_Q} {Z : k_Z} {P : k_P} {U : k_U} {B : Nat → Option e_Cl} {r : Nat × Nat}
theorem l_new (hA : e_AK g) {n t : Nat} (tn : Z.1 n = 0) (hc : Z.2.1 n = 0) (ht : 30 ≤ t ∧ t ≤ 32) (q : Ψ none (K_H (k_zt Z n t) P (k_wl U n []) (B, r))) : e_Sc g 244 [.ref n] (K_H Z P U (va_up B n (some (e_O 0 (e_dv 0))), r)) Ψ := by
  refine hA.2.2.2.2.2.2.2 n _ Ψ ?_ ?_
  · rw [k_at0 tn]
    exact up_s
  · rw [k_rw tn, k_absL tn (Z' := k_zt Z n t) (P' := P) (U' := k_wl U n [])]
    · exact q
    · unfold k_tL
      rw [k_zts]
      exact ht
    · exact k_ls
    · exact hc
    · exact fun b hb => ⟨k_ztn hb, rfl, rfl, fun f => rfl, rfl, rfl, k_ln hb, rfl⟩
theorem h_newAsk (hg : e_GK g) {n : Nat} (tn : Z.1 n = 0) (q : Ψ none (K_H (k_zt Z n 2) (k_set1 P n (fun _ => 0)) U (B, r))) : e_Sc g 0 [.ref n] (K_H Z P U (va_up B n (some (e_O 1 (e_dv 1))), r)) Ψ := by
  refine e_call (cd := cd0) hg ok0 (by rw [mL0]; exact Nat.le_of_ble_eq_true rfl) ?_
  rw [mL0]
  simp only [x_ini, x_inr, x_inn, x_inq, x_inl, x_in0, x_rp0, x_rps, Nat.reduceSub]
  simp (decide := true) (disch := first | assumption | omega) only [↓u0_0, ↓x_nil, ↓x_om, ↓x_aload_0r, ↓x_aload_0n, ↓x_aload_0q, ↓x_invokespecial, mt_1_3, x_ps0, x_ps1, x_l40, x_l41, x_l42, x_l43, x_l44, ↓x_co, ↓x_return, Int.reduceAdd, Nat.reduceAdd, true_and, and_true, true_or, or_true, false_or, or_false, reduceCtorEq, false_and, and_false, and_self, or_self, false_implies, true_implies, not_true_eq_false, not_false_eq_true, implies_true, Option.some.injEq, k_rg, k_rw, k_c2, up_s, up_n]
  rw [k_absO (c := 1) tn k_zts (by decide) (by decide) (Z' := k_zt Z n 2) (P' := k_set1 P n (fun _ => 0)) (U' := U)]
  · exact q
  · refine k_Vext (fun k hk => ?_) (fun k hk => rfl)
    have hk : k = 0 ∨ k = 1 ∨ k = 2 ∨ k = 3 ∨ k = 4 ∨ k = 5 := by simp [k_K] at hk; omega
    rcases hk with rfl | rfl | rfl | rfl | rfl | rfl
    · rw [dv1_0, kv1_0, k_s1s]
    · rw [dv1_1, kv1_1, k_s1s]
    · rw [dv1_2, kv1_2, k_s1s]
    · rw [dv1_3, kv1_3, k_s1s]
    · rw [dv1_4, kv1_4, k_s1s]
    · rw [dv1_5, kv1_5, k_s1s]
  · exact fun b hb => ⟨k_ztn hb, rfl, rfl, fun f => k_s1n hb, rfl, rfl, rfl, rfl⟩
theorem h_newTally (hg : e_GK g) {n : Nat} (tn : Z.1 n = 0) (q : Ψ none (K_H (k_zt Z n 11) (k_set1 P n (fun _ => 0)) U (B, r))) : e_Sc g 64 [.ref n] (K_H Z P U (va_up B n (some (e_O 10 (e_dv 10))), r)) Ψ := by
  refine e_call (cd := cd64) hg ok64 (by rw [mL64]; exact Nat.le_of_ble_eq_true rfl) ?_
  rw [mL64]
  simp only [x_ini, x_inr, x_inn, x_inq, x_inl, x_in0, x_rp0, x_rps, Nat.reduceSub]
  simp (decide := true) (disch := first | assumption | omega) only [↓u64_0, ↓x_nil, ↓x_om, ↓x_aload_0r, ↓x_aload_0n, ↓x_aload_0q, ↓x_invokespecial, mt_10_1, x_ps0, x_ps1, x_l40, x_l41, x_l42, x_l43, x_l44, ↓x_co, ↓x_return, Int.reduceAdd, Nat.reduceAdd, true_and, and_true, true_or, or_true, false_or, or_false, reduceCtorEq, false_and, and_false, and_self, or_self, false_implies, true_implies, not_true_eq_false, not_false_eq_true, implies_true, Option.some.injEq, k_rg, k_rw, k_c2, up_s, up_n]
  rw [k_absO (c := 10) tn k_zts (by decide) (by decide) (Z' := k_zt Z n 11) (P' := k_set1 P n (fun _ => 0)) (U' := U)]
  · exact q
  · refine k_Vext (fun k hk => ?_) (fun k hk => rfl)
    have hk : k = 0 ∨ k = 1 ∨ k = 2 ∨ k = 3 ∨ k = 4 ∨ k = 5 ∨ k = 6 := by simp [k_K] at hk; omega
    rcases hk with rfl | rfl | rfl | rfl | rfl | rfl | rfl
    · rw [dv10_0, kv10_0, k_s1s]
    · rw [dv10_1, kv10_1, k_s1s]
    · rw [dv10_2, kv10_2, k_s1s]
    · rw [dv10_3, kv10_3, k_s1s]
    · rw [dv10_4, kv10_4, k_s1s]
    · rw [dv10_5, kv10_5, k_s1s]
    · rw [dv10_6, kv10_6, k_s1s]
  · exact fun b hb => ⟨k_ztn hb, rfl, rfl, fun f => k_s1n hb, rfl, rfl, rfl, rfl⟩
def k_deF (a b c : Int32) (f : Nat) : Int32 := match f with
  | 40 => a | 41 => b | 42 => c | 43 => 1 | 50 => -9 | _ => 0
def k_zD (Z : k_Z) (n : Nat) : k_Z := k_zt (k_zt (k_zt Z (n + 1) 2) (n + 2) 105) n 3
def k_nD (P : k_P) (n : Nat) (a b c : Int32) : k_P := k_set1 (k_wa (k_set1 P (n + 1) (fun _ => 0)) (n + 2) (fun _ => 0)) n (k_deF a b c)
theorem h_newDeal (hg : e_GK g) {n s : Nat} {a b c : Int32} (tn : Z.1 n = 0) (t1 : Z.1 (n + 1) = 0) (t2 : Z.1 (n + 2) = 0) (q : Ψ none (K_H (k_zD Z n) (k_nD P n a b c) (k_ww U n none) (B, (n + 3, s + 11)))) : e_Sc g 4 [.ref n, .int a, .int b, .int c] (K_H Z P U (va_up B n (some (e_O 2 (e_dv 2))), (n + 1, s))) Ψ := by
  refine e_call (cd := cd4) hg ok4 (by rw [mL4]; exact Nat.le_of_ble_eq_true rfl) ?_
  rw [mL4]
  simp only [x_ini, x_inr, x_inn, x_inq, x_inl, x_in0, x_rp0, x_rps, Nat.reduceSub]
  simp (decide := true) (disch := first | assumption | omega) only [↓u4_0, ↓x_nil, ↓x_om, ↓x_aload_0r, ↓x_aload_0n, ↓x_aload_0q, ↓x_invokespecial, mt_2_3, x_ps0, x_ps1, x_l40, x_l41, x_l42, x_l43, x_l44, ↓x_co, ↓x_iconst_1, ↓x_putfield, ft_2_9, x_fit0, x_fit1, x_fit2r, x_fit2n, x_fit2q, ↓x_bipush_m9, ft_2_15, ↓x_new, ct_2_18, ↓x_dup_i, ↓x_dup_r, ↓x_dup_n, mt_2_20, ↓x_ci0_4, ft_2_21, ↓x_iconst_5, ↓x_newarray_int, ft_2_25, ↓x_iload_1, ft_2_29, ↓x_iload_2, ft_2_32, ↓x_iload_3, ft_2_35, ↓x_return, Int.reduceAdd, Nat.reduceAdd, true_and, and_true, true_or, or_true, false_or, or_false, reduceCtorEq, false_and, and_false, and_self, or_self, false_implies, true_implies, not_true_eq_false, not_false_eq_true, implies_true, Option.some.injEq, k_rg, k_rw, k_c2, k_alO, nf1, kg2, kv2_3, kw2_3, k_rs, k_rn, k_r2, k_c2, kv2_10, kw2_10, ki1, kv2_14, kv2_15, kv2_0, kw2_0, kv2_1, kw2_1, kv2_2, kw2_2, up_s, up_n]
  refine h_newAsk hg t1 ?_
  have u0 : (k_zt Z (n + 1) 2).1 n = 0 := by rw [k_ztn (by omega)]; exact tn
  have u2 : (k_zt Z (n + 1) 2).1 (n + 2) = 0 := by rw [k_ztn (by omega)]; exact t2
  have v0 : (k_zt (k_zt Z (n + 1) 2) (n + 2) 105).1 n = 0 := by rw [k_ztn (by omega)]; exact u0
  simp (decide := true) (disch := first | assumption | omega) only [↓u4_0, ↓x_nil, ↓x_om, ↓x_aload_0r, ↓x_aload_0n, ↓x_aload_0q, ↓x_invokespecial, mt_2_3, x_ps0, x_ps1, x_l40, x_l41, x_l42, x_l43, x_l44, ↓x_co, ↓x_iconst_1, ↓x_putfield, ft_2_9, x_fit0, x_fit1, x_fit2r, x_fit2n, x_fit2q, ↓x_bipush_m9, ft_2_15, ↓x_new, ct_2_18, ↓x_dup_i, ↓x_dup_r, ↓x_dup_n, mt_2_20, ↓x_ci0_4, ft_2_21, ↓x_iconst_5, ↓x_newarray_int, ft_2_25, ↓x_iload_1, ft_2_29, ↓x_iload_2, ft_2_32, ↓x_iload_3, ft_2_35, ↓x_return, Int.reduceAdd, Nat.reduceAdd, true_and, and_true, true_or, or_true, false_or, or_false, reduceCtorEq, false_and, and_false, and_self, or_self, false_implies, true_implies, not_true_eq_false, not_false_eq_true, implies_true, Option.some.injEq, k_rg, k_rw, k_c2, k_alI, tc5, kg2, kv2_3, kw2_3, k_rs, k_rn, k_r2, k_c2, kv2_10, kw2_10, ki1, kv2_14, kv2_15, kv2_0, kw2_0, kv2_1, kw2_1, kv2_2, kw2_2, up_s, up_n]
  rw [k_absO (c := 2) v0 (show (k_zD Z n).1 n = 3 from k_zts) (by decide) (by decide) (Z' := k_zD Z n) (P' := k_nD P n a b c) (U' := k_ww U n none)]
  · exact q
  · refine k_Vext (fun k hk => ?_) (fun k hk => ?_)
    · have hk : k = 0 ∨ k = 1 ∨ k = 2 ∨ k = 3 ∨ k = 4 ∨ k = 5 ∨ k = 6 ∨ k = 7 ∨ k = 8 ∨ k = 9 ∨ k = 10 ∨ k = 11 ∨ k = 12 ∨ k = 13 ∨ k = 14 ∨ k = 15 := by simp [k_K] at hk; omega
      rcases hk with rfl | rfl | rfl | rfl | rfl | rfl | rfl | rfl | rfl | rfl | rfl | rfl | rfl | rfl | rfl | rfl
      all_goals simp only [va_up, kv2_0, kv2_1, kv2_2, kv2_3, kv2_4, kv2_5, kv2_6, kv2_7, kv2_8, kv2_9, kv2_10, kv2_11, kv2_12, kv2_13, kv2_14, kv2_15, k_nD, k_s1s, k_deF, k_ws, k_rfn, dv2_4, dv2_5, dv2_6, dv2_7, dv2_8, dv2_9, dv2_11, dv2_12, dv2_13]
      all_goals rfl
    · have hk : 16 ≤ k := by simp [k_K] at hk; omega
      rw [up_n (by omega), up_n (by omega), up_n (by omega), up_n (by omega), up_n (by omega), up_n (by omega), up_n (by omega)]
  · exact fun b hb => ⟨k_ztn hb, rfl, rfl, fun f => k_s1n hb, rfl, k_wn hb, rfl, rfl⟩
end KL
