section KM
variable {g : e_G} {Ψ : e_Q} {Z : k_Z} {P : k_P} {U : k_U} {B : Nat → Option e_Cl} {r : Nat × Nat}
theorem k_alR2 {f : Nat → Option Nat} {k : Nat} (t : Z.1 r.1 = 0) : e_al (K_H Z P U (B, r)) (e_R 2 40 f) k = K_H (k_zt Z r.1 20) P (k_wx U r.1 f) (B, (r.1 + 1, r.2 + k)) := by
  rw [k_al t]
  exact k_absR2 t k_zts k_xs (fun b hb => ⟨k_ztn hb, rfl, rfl, fun f => rfl, rfl, rfl, rfl, k_xn hb⟩)
theorem k_alR3 {f : Nat → Option Nat} {k : Nat} (t : Z.1 r.1 = 0) : e_al (K_H Z P U (B, r)) (e_R 3 40 f) k = K_H (k_zt Z r.1 21) P (k_wx U r.1 f) (B, (r.1 + 1, r.2 + k)) := by
  rw [k_al t]
  exact k_absR3 t k_zts k_xs (fun b hb => ⟨k_ztn hb, rfl, rfl, fun f => rfl, rfl, rfl, rfl, k_xn hb⟩)
def k_zR (Z : k_Z) (n : Nat) : k_Z := k_zt (k_zt Z (n + 1) 116) n 6
def k_nR (P : k_P) (n : Nat) : k_P := k_set1 (k_wa P (n + 1) (fun _ => 0)) n (fun _ => 0)
theorem h_newReport (hg : e_GK g) {n s : Nat} (tn : Z.1 n = 0) (t1 : Z.1 (n + 1) = 0) (q : Ψ none (K_H (k_zR Z n) (k_nR P n) U (B, (n + 2, s + 16)))) : e_Sc g 23 [.ref n] (K_H Z P U (va_up B n (some (e_O 5 (e_dv 5))), (n + 1, s))) Ψ := by
  refine e_call (cd := cd23) hg ok23 (by rw [mL23]; exact Nat.le_of_ble_eq_true rfl) ?_
  rw [mL23]
  simp only [x_ini, x_inr, x_inn, x_inq, x_inl, x_in0, x_rp0, x_rps, Nat.reduceSub]
  have u0 : (k_zt Z (n + 1) 116).1 n = 0 := by rw [k_ztn (by omega)]; exact tn
  simp (decide := true) (disch := first | assumption | omega) only [↓u23_0, ↓x_nil, ↓x_om, ↓x_aload_0r, ↓x_aload_0n, ↓x_aload_0q, ↓x_invokespecial, mt_5_3, x_ps0, x_ps1, x_l40, x_l41, x_l42, x_l43, x_l44, ↓x_co, ↓x_bipush_16, ↓x_newarray_int, ↓x_putfield, ft_5_9, x_fit0, x_fit1, x_fit2r, x_fit2n, x_fit2q, ↓x_return, Int.reduceAdd, Nat.reduceAdd, true_and, and_true, true_or, or_true, false_or, or_false, reduceCtorEq, false_and, and_false, and_self, or_self, false_implies, true_implies, not_true_eq_false, not_false_eq_true, implies_true, Option.some.injEq, k_rg, k_rw, k_c2, k_alI, tc16, kg5, kv5_4, k_rs, k_rn, k_r2, k_c2, up_s, up_n]
  rw [k_absO (c := 5) u0 (show (k_zR Z n).1 n = 6 from k_zts) (by decide) (by decide) (Z' := k_zR Z n) (P' := k_nR P n) (U' := U)]
  · exact q
  · refine k_Vext (fun k hk => ?_) (fun k hk => ?_)
    · have hk : k = 0 ∨ k = 1 ∨ k = 2 ∨ k = 3 ∨ k = 4 := by simp [k_K] at hk; omega
      rcases hk with rfl | rfl | rfl | rfl | rfl
      all_goals simp only [va_up, kv5_0, kv5_1, kv5_2, kv5_3, kv5_4, k_nR, k_s1s, dv5_0, dv5_1, dv5_2, dv5_3]
      all_goals rfl
    · have hk : 5 ≤ k := by simp [k_K] at hk; omega
      rw [up_n (by omega)]
  · exact fun b hb => ⟨k_ztn hb, rfl, rfl, fun f => k_s1n hb, rfl, rfl, rfl, rfl⟩
def k_zS (Z : k_Z) (n : Nat) : k_Z := k_zt (k_zR (k_zt Z (n + 1) 20) (n + 2)) n 9
def k_nS (P : k_P) (n : Nat) : k_P := k_set1 (k_nR P (n + 2)) n (fun _ => 0)
def k_uS (U : k_U) (n : Nat) : k_U := k_wx U (n + 1) (fun _ => none)
theorem h_newShelf (hg : e_GK g) {n s : Nat} (tn : Z.1 n = 0) (t1 : Z.1 (n + 1) = 0) (t2 : Z.1 (n + 2) = 0) (t3 : Z.1 (n + 3) = 0) (q : Ψ none (K_H (k_zS Z n) (k_nS P n) (k_uS U n) (B, (n + 4, s + 61)))) : e_Sc g 38 [.ref n] (K_H Z P U (va_up B n (some (e_O 8 (e_dv 8))), (n + 1, s))) Ψ := by
  refine e_call (cd := cd38) hg ok38 (by rw [mL38]; exact Nat.le_of_ble_eq_true rfl) ?_
  rw [mL38]
  simp only [x_ini, x_inr, x_inn, x_inq, x_inl, x_in0, x_rp0, x_rps, Nat.reduceSub]
  have u0 : (k_zt Z (n + 1) 20).1 n = 0 := by rw [k_ztn (by omega)]; exact tn
  have u2 : (k_zt Z (n + 1) 20).1 (n + 2) = 0 := by rw [k_ztn (by omega)]; exact t2
  have u3 : (k_zt Z (n + 1) 20).1 (n + 3) = 0 := by rw [k_ztn (by omega)]; exact t3
  simp (decide := true) (disch := first | assumption | omega) only [↓u38_0, ↓x_nil, ↓x_om, ↓x_aload_0r, ↓x_aload_0n, ↓x_aload_0q, ↓x_invokespecial, mt_8_3, x_ps0, x_ps1, x_l40, x_l41, x_l42, x_l43, x_l44, ↓x_co, ↓x_bipush_40, ↓x_anewarray, ↓x_an11, ↓x_an9, ct_8_9, ↓x_putfield, ft_8_11, x_fit0, x_fit1, x_fit2r, x_fit2n, x_fit2q, ↓x_new, ct_8_17, ↓x_dup_i, ↓x_dup_r, ↓x_dup_n, mt_8_19, ↓x_ci0_4, ft_8_20, ↓x_return, Int.reduceAdd, Nat.reduceAdd, true_and, and_true, true_or, or_true, false_or, or_false, reduceCtorEq, false_and, and_false, and_self, or_self, false_implies, true_implies, not_true_eq_false, not_false_eq_true, implies_true, Option.some.injEq, k_rg, k_rw, k_c2, k_alR2, tc40, k_alO, nf5, kg8, kv8_0, k_rs, k_rn, k_r2, k_c2, ki5, kv8_2, up_s, up_n]
  refine h_newReport hg u2 u3 ?_
  have v0 : (k_zR (k_zt Z (n + 1) 20) (n + 2)).1 n = 0 := by unfold k_zR; rw [k_ztn (by omega), k_ztn (by omega)]; exact u0
  simp (decide := true) (disch := first | assumption | omega) only [↓u38_0, ↓x_nil, ↓x_om, ↓x_aload_0r, ↓x_aload_0n, ↓x_aload_0q, ↓x_invokespecial, mt_8_3, x_ps0, x_ps1, x_l40, x_l41, x_l42, x_l43, x_l44, ↓x_co, ↓x_bipush_40, ↓x_anewarray, ↓x_an11, ↓x_an9, ct_8_9, ↓x_putfield, ft_8_11, x_fit0, x_fit1, x_fit2r, x_fit2n, x_fit2q, ↓x_new, ct_8_17, ↓x_dup_i, ↓x_dup_r, ↓x_dup_n, mt_8_19, ↓x_ci0_4, ft_8_20, ↓x_return, Int.reduceAdd, Nat.reduceAdd, true_and, and_true, true_or, or_true, false_or, or_false, reduceCtorEq, false_and, and_false, and_self, or_self, false_implies, true_implies, not_true_eq_false, not_false_eq_true, implies_true, Option.some.injEq, k_rg, k_rw, k_c2, tc40, k_alO, nf5, kg8, kv8_0, k_rs, k_rn, k_r2, k_c2, ki5, kv8_2, up_s, up_n]
  rw [k_absO (c := 8) v0 (show (k_zS Z n).1 n = 9 from k_zts) (by decide) (by decide) (Z' := k_zS Z n) (P' := k_nS P n) (U' := k_uS U n)]
  · exact q
  · refine k_Vext (fun k hk => ?_) (fun k hk => ?_)
    · have hk : k = 0 ∨ k = 1 ∨ k = 2 := by simp [k_K] at hk; omega
      rcases hk with rfl | rfl | rfl
      all_goals simp only [va_up, kv8_0, kv8_1, kv8_2, k_nS, k_s1s, dv8_1]
      all_goals rfl
    · have hk : 3 ≤ k := by simp [k_K] at hk; omega
      rw [up_n (by omega), up_n (by omega)]
  · exact fun b hb => ⟨k_ztn hb, rfl, rfl, fun f => k_s1n hb, rfl, rfl, rfl, rfl⟩
def k_zP (Z : k_Z) (n : Nat) : k_Z := k_zt (k_zt (k_zt (k_zt (k_zt Z (n + 1) 31) (n + 2) 31) (n + 3) 116) (n + 4) 116) n 10
def k_nP (P : k_P) (n : Nat) : k_P := k_set1 (k_wa (k_wa P (n + 3) (fun _ => 0)) (n + 4) (fun _ => 0)) n (fun _ => 0)
def k_uP (U : k_U) (n : Nat) : k_U := k_wl (k_wl U (n + 1) []) (n + 2) []
theorem h_newSpot (hg : e_GK g) (hA : e_AK g) {n s : Nat} (tn : Z.1 n = 0) (t1 : Z.1 (n + 1) = 0) (t2 : Z.1 (n + 2) = 0) (t3 : Z.1 (n + 3) = 0) (t4 : Z.1 (n + 4) = 0) (c1 : Z.2.1 (n + 1) = 0) (c2 : Z.2.1 (n + 2) = 0) (q : Ψ none (K_H (k_zP Z n) (k_nP P n) (k_uP U n) (B, (n + 5, s + 38)))) : e_Sc g 52 [.ref n] (K_H Z P U (va_up B n (some (e_O 9 (e_dv 9))), (n + 1, s))) Ψ := by
  refine e_call (cd := cd52) hg ok52 (by rw [mL52]; exact Nat.le_of_ble_eq_true rfl) ?_
  rw [mL52]
  simp only [x_ini, x_inr, x_inn, x_inq, x_inl, x_in0, x_rp0, x_rps, Nat.reduceSub]
  simp (decide := true) (disch := first | assumption | omega) only [↓u52_0, ↓x_nil, ↓x_om, ↓x_aload_0r, ↓x_aload_0n, ↓x_aload_0q, ↓x_invokespecial, mt_9_3, x_ps0, x_ps1, x_l40, x_l41, x_l42, x_l43, x_l44, ↓x_co, ↓x_new, ct_9_9, ↓x_dup_i, ↓x_dup_r, ↓x_dup_n, mt_9_11, ↓x_ci0_2, ↓x_putfield, ft_9_12, x_fit0, x_fit1, x_fit2r, x_fit2n, x_fit2q, ft_9_18, ↓x_bipush_16, ↓x_newarray_int, ft_9_21, ft_9_25, ↓x_return, Int.reduceAdd, Nat.reduceAdd, true_and, and_true, true_or, or_true, false_or, or_false, reduceCtorEq, false_and, and_false, and_self, or_self, false_implies, true_implies, not_true_eq_false, not_false_eq_true, implies_true, Option.some.injEq, k_rg, k_rw, k_c2, k_alO, nf0, kiL30, kiL31, kiL32, kg9, kv9_1, k_rs, k_rn, k_r2, k_c2, kv9_2, kv9_4, kv9_5, up_s, up_n]
  refine l_new hA t1 c1 (show 30 ≤ 31 ∧ 31 ≤ 32 by omega) ?_
  have a0 : (k_zt Z (n + 1) 31).1 n = 0 := by rw [k_ztn (by omega)]; exact tn
  have a2 : (k_zt Z (n + 1) 31).1 (n + 2) = 0 := by rw [k_ztn (by omega)]; exact t2
  simp (decide := true) (disch := first | assumption | omega) only [↓u52_0, ↓x_nil, ↓x_om, ↓x_aload_0r, ↓x_aload_0n, ↓x_aload_0q, ↓x_invokespecial, mt_9_3, x_ps0, x_ps1, x_l40, x_l41, x_l42, x_l43, x_l44, ↓x_co, ↓x_new, ct_9_9, ↓x_dup_i, ↓x_dup_r, ↓x_dup_n, mt_9_11, ↓x_ci0_2, ↓x_putfield, ft_9_12, x_fit0, x_fit1, x_fit2r, x_fit2n, x_fit2q, ft_9_18, ↓x_bipush_16, ↓x_newarray_int, ft_9_21, ft_9_25, ↓x_return, Int.reduceAdd, Nat.reduceAdd, true_and, and_true, true_or, or_true, false_or, or_false, reduceCtorEq, false_and, and_false, and_self, or_self, false_implies, true_implies, not_true_eq_false, not_false_eq_true, implies_true, Option.some.injEq, k_rg, k_rw, k_c2, k_alO, nf0, kiL30, kiL31, kiL32, kg9, kv9_1, k_rs, k_rn, k_r2, k_c2, kv9_2, kv9_4, kv9_5, up_s, up_n]
  refine l_new hA a2 c2 (show 30 ≤ 31 ∧ 31 ≤ 32 by omega) ?_
  have b0 : (k_zt (k_zt Z (n + 1) 31) (n + 2) 31).1 n = 0 := by rw [k_ztn (by omega)]; exact a0
  have b3 : (k_zt (k_zt Z (n + 1) 31) (n + 2) 31).1 (n + 3) = 0 := by rw [k_ztn (by omega), k_ztn (by omega)]; exact t3
  have d0 : (k_zt (k_zt (k_zt Z (n + 1) 31) (n + 2) 31) (n + 3) 116).1 n = 0 := by rw [k_ztn (by omega)]; exact b0
  have d4 : (k_zt (k_zt (k_zt Z (n + 1) 31) (n + 2) 31) (n + 3) 116).1 (n + 4) = 0 := by rw [k_ztn (by omega), k_ztn (by omega), k_ztn (by omega)]; exact t4
  have e0 : (k_zt (k_zt (k_zt (k_zt Z (n + 1) 31) (n + 2) 31) (n + 3) 116) (n + 4) 116).1 n = 0 := by rw [k_ztn (by omega)]; exact d0
  simp (decide := true) (disch := first | assumption | omega) only [↓u52_0, ↓x_nil, ↓x_om, ↓x_aload_0r, ↓x_aload_0n, ↓x_aload_0q, ↓x_invokespecial, mt_9_3, x_ps0, x_ps1, x_l40, x_l41, x_l42, x_l43, x_l44, ↓x_co, ↓x_new, ct_9_9, ↓x_dup_i, ↓x_dup_r, ↓x_dup_n, mt_9_11, ↓x_ci0_2, ↓x_putfield, ft_9_12, x_fit0, x_fit1, x_fit2r, x_fit2n, x_fit2q, ft_9_18, ↓x_bipush_16, ↓x_newarray_int, ft_9_21, ft_9_25, ↓x_return, Int.reduceAdd, Nat.reduceAdd, true_and, and_true, true_or, or_true, false_or, or_false, reduceCtorEq, false_and, and_false, and_self, or_self, false_implies, true_implies, not_true_eq_false, not_false_eq_true, implies_true, Option.some.injEq, k_rg, k_rw, k_c2, k_alI, tc16, kiL30, kiL31, kiL32, kg9, kv9_1, k_rs, k_rn, k_r2, k_c2, kv9_2, kv9_4, kv9_5, up_s, up_n]
  rw [k_absO (c := 9) e0 (show (k_zP Z n).1 n = 10 from k_zts) (by decide) (by decide) (Z' := k_zP Z n) (P' := k_nP P n) (U' := k_uP U n)]
  · exact q
  · refine k_Vext (fun k hk => ?_) (fun k hk => ?_)
    · have hk : k = 0 ∨ k = 1 ∨ k = 2 ∨ k = 3 ∨ k = 4 ∨ k = 5 := by simp [k_K] at hk; omega
      rcases hk with rfl | rfl | rfl | rfl | rfl | rfl
      all_goals simp only [va_up, kv9_0, kv9_1, kv9_2, kv9_3, kv9_4, kv9_5, k_nP, k_s1s, dv9_0, dv9_3]
      all_goals rfl
    · have hk : 6 ≤ k := by simp [k_K] at hk; omega
      rw [up_n (by omega), up_n (by omega), up_n (by omega), up_n (by omega)]
  · exact fun b hb => ⟨k_ztn hb, rfl, rfl, fun f => k_s1n hb, rfl, rfl, rfl, rfl⟩
def k_zG (Z : k_Z) (n : Nat) : k_Z := k_zt (k_zt Z (n + 1) 32) n 5
def k_nG (P : k_P) (n : Nat) : k_P := k_set1 P n (fun f => if f = 83 then 1 else 0)
theorem h_newLog (hg : e_GK g) (hA : e_AK g) {n s : Nat} (tn : Z.1 n = 0) (t1 : Z.1 (n + 1) = 0) (c1 : Z.2.1 (n + 1) = 0) (q : Ψ none (K_H (k_zG Z n) (k_nG P n) (k_wl U (n + 1) []) (B, (n + 2, s + 3)))) : e_Sc g 16 [.ref n] (K_H Z P U (va_up B n (some (e_O 4 (e_dv 4))), (n + 1, s))) Ψ := by
  refine e_call (cd := cd16) hg ok16 (by rw [mL16]; exact Nat.le_of_ble_eq_true rfl) ?_
  rw [mL16]
  simp only [x_ini, x_inr, x_inn, x_inq, x_inl, x_in0, x_rp0, x_rps, Nat.reduceSub]
  simp (decide := true) (disch := first | assumption | omega) only [↓u16_0, ↓x_nil, ↓x_om, ↓x_aload_0r, ↓x_aload_0n, ↓x_aload_0q, ↓x_invokespecial, mt_4_1, x_ps0, x_ps1, x_l40, x_l41, x_l42, x_l43, x_l44, ↓x_co, ↓x_new, ct_4_7, ↓x_dup_i, ↓x_dup_r, ↓x_dup_n, mt_4_9, ↓x_ci0_2, ↓x_putfield, ft_4_10, x_fit0, x_fit1, x_fit2r, x_fit2n, x_fit2q, ↓x_iconst_1, ft_4_16, ↓x_return, Int.reduceAdd, Nat.reduceAdd, true_and, and_true, true_or, or_true, false_or, or_false, reduceCtorEq, false_and, and_false, and_self, or_self, false_implies, true_implies, not_true_eq_false, not_false_eq_true, implies_true, Option.some.injEq, k_rg, k_rw, k_c2, k_alO, nf0, kiL30, kiL31, kiL32, kg4, kv4_0, k_rs, k_rn, k_r2, k_c2, kv4_3, kw4_3, up_s, up_n]
  refine l_new hA t1 c1 (show 30 ≤ 32 ∧ 32 ≤ 32 by omega) ?_
  have a0 : (k_zt Z (n + 1) 32).1 n = 0 := by rw [k_ztn (by omega)]; exact tn
  simp (decide := true) (disch := first | assumption | omega) only [↓u16_0, ↓x_nil, ↓x_om, ↓x_aload_0r, ↓x_aload_0n, ↓x_aload_0q, ↓x_invokespecial, mt_4_1, x_ps0, x_ps1, x_l40, x_l41, x_l42, x_l43, x_l44, ↓x_co, ↓x_new, ct_4_7, ↓x_dup_i, ↓x_dup_r, ↓x_dup_n, mt_4_9, ↓x_ci0_2, ↓x_putfield, ft_4_10, x_fit0, x_fit1, x_fit2r, x_fit2n, x_fit2q, ↓x_iconst_1, ft_4_16, ↓x_return, Int.reduceAdd, Nat.reduceAdd, true_and, and_true, true_or, or_true, false_or, or_false, reduceCtorEq, false_and, and_false, and_self, or_self, false_implies, true_implies, not_true_eq_false, not_false_eq_true, implies_true, Option.some.injEq, k_rg, k_rw, k_c2, kiL30, kiL31, kiL32, kg4, kv4_0, k_rs, k_rn, k_r2, k_c2, kv4_3, kw4_3, up_s, up_n]
  rw [k_absO (c := 4) a0 (show (k_zG Z n).1 n = 5 from k_zts) (by decide) (by decide) (Z' := k_zG Z n) (P' := k_nG P n) (U' := k_wl U (n + 1) [])]
  · exact q
  · refine k_Vext (fun k hk => ?_) (fun k hk => ?_)
    · have hk : k = 0 ∨ k = 1 ∨ k = 2 ∨ k = 3 := by simp [k_K] at hk; omega
      rcases hk with rfl | rfl | rfl | rfl
      all_goals simp only [va_up, kv4_0, kv4_1, kv4_2, kv4_3, k_nG, k_s1s, dv4_1, dv4_2]
      all_goals rfl
    · have hk : 4 ≤ k := by simp [k_K] at hk; omega
      rw [up_n (by omega), up_n (by omega)]
  · exact fun b hb => ⟨k_ztn hb, rfl, rfl, fun f => k_s1n hb, rfl, rfl, rfl, rfl⟩
def k_zQ (Z : k_Z) (n : Nat) : k_Z := k_zt (k_zt (k_zt (k_zt (k_zt (k_zt Z (n + 1) 112) (n + 2) 112) (n + 3) 112) (n + 4) 112) (n + 5) 112) n 7
def k_nQ (P : k_P) (n : Nat) : k_P := k_set1 (k_wa (k_wa (k_wa (k_wa (k_wa P (n + 1) (fun _ => 0)) (n + 2) (fun _ => 0)) (n + 3) (fun _ => 0)) (n + 4) (fun _ => 0)) (n + 5) (fun _ => 0)) n (fun f => if f = 126 then -9 else 0)
theorem h_newRing (hg : e_GK g) {n s : Nat} (t : ∀ k, k ≤ 5 → Z.1 (n + k) = 0) (q : Ψ none (K_H (k_zQ Z n) (k_nQ P n) U (B, (n + 6, s + 60)))) : e_Sc g 27 [.ref n] (K_H Z P U (va_up B n (some (e_O 6 (e_dv 6))), (n + 1, s))) Ψ := by
  refine e_call (cd := cd27) hg ok27 (by rw [mL27]; exact Nat.le_of_ble_eq_true rfl) ?_
  rw [mL27]
  simp only [x_ini, x_inr, x_inn, x_inq, x_inl, x_in0, x_rp0, x_rps, Nat.reduceSub]
  have tn : Z.1 n = 0 := t 0 (by omega)
  have t1 : Z.1 (n + 1) = 0 := t 1 (by omega)
  have a0 : (k_zt Z (n + 1) 112).1 n = 0 := by rw [k_ztn (by omega)]; exact tn
  have a2 : (k_zt Z (n + 1) 112).1 (n + 2) = 0 := by rw [k_ztn (by omega)]; exact t 2 (by omega)
  have b0 : (k_zt (k_zt Z (n + 1) 112) (n + 2) 112).1 n = 0 := by rw [k_ztn (by omega)]; exact a0
  have b3 : (k_zt (k_zt Z (n + 1) 112) (n + 2) 112).1 (n + 3) = 0 := by rw [k_ztn (by omega), k_ztn (by omega)]; exact t 3 (by omega)
  have c0 : (k_zt (k_zt (k_zt Z (n + 1) 112) (n + 2) 112) (n + 3) 112).1 n = 0 := by rw [k_ztn (by omega)]; exact b0
  have c4 : (k_zt (k_zt (k_zt Z (n + 1) 112) (n + 2) 112) (n + 3) 112).1 (n + 4) = 0 := by rw [k_ztn (by omega), k_ztn (by omega), k_ztn (by omega)]; exact t 4 (by omega)
  have d0 : (k_zt (k_zt (k_zt (k_zt Z (n + 1) 112) (n + 2) 112) (n + 3) 112) (n + 4) 112).1 n = 0 := by rw [k_ztn (by omega)]; exact c0
  have d5 : (k_zt (k_zt (k_zt (k_zt Z (n + 1) 112) (n + 2) 112) (n + 3) 112) (n + 4) 112).1 (n + 5) = 0 := by rw [k_ztn (by omega), k_ztn (by omega), k_ztn (by omega), k_ztn (by omega)]; exact t 5 (by omega)
  have e0 : (k_zt (k_zt (k_zt (k_zt (k_zt Z (n + 1) 112) (n + 2) 112) (n + 3) 112) (n + 4) 112) (n + 5) 112).1 n = 0 := by rw [k_ztn (by omega)]; exact d0
  simp (decide := true) (disch := first | assumption | omega) only [↓u27_0, ↓x_nil, ↓x_om, ↓x_aload_0r, ↓x_aload_0n, ↓x_aload_0q, ↓x_invokespecial, mt_6_3, x_ps0, x_ps1, x_l40, x_l41, x_l42, x_l43, x_l44, ↓x_co, ↓x_bipush_12, ↓x_newarray_int, ↓x_putfield, ft_6_9, x_fit0, x_fit1, x_fit2r, x_fit2n, x_fit2q, ft_6_15, ft_6_18, ft_6_21, ft_6_24, ↓x_bipush_m9, ft_6_27, ↓x_return, Int.reduceAdd, Nat.reduceAdd, true_and, and_true, true_or, or_true, false_or, or_false, reduceCtorEq, false_and, and_false, and_self, or_self, false_implies, true_implies, not_true_eq_false, not_false_eq_true, implies_true, Option.some.injEq, k_rg, k_rw, k_c2, k_alI, tc12, kg6, kv6_0, k_rs, k_rn, k_r2, k_c2, kv6_1, kv6_2, kv6_3, kv6_4, kv6_6, kw6_6, up_s, up_n]
  rw [k_absO (c := 6) e0 (show (k_zQ Z n).1 n = 7 from k_zts) (by decide) (by decide) (Z' := k_zQ Z n) (P' := k_nQ P n) (U' := U)]
  · exact q
  · refine k_Vext (fun k hk => ?_) (fun k hk => ?_)
    · have hk : k = 0 ∨ k = 1 ∨ k = 2 ∨ k = 3 ∨ k = 4 ∨ k = 5 ∨ k = 6 := by simp [k_K] at hk; omega
      rcases hk with rfl | rfl | rfl | rfl | rfl | rfl | rfl
      all_goals simp only [va_up, kv6_0, kv6_1, kv6_2, kv6_3, kv6_4, kv6_5, kv6_6, k_nQ, k_s1s, dv6_5]
      all_goals rfl
    · have hk : 7 ≤ k := by simp [k_K] at hk; omega
      rw [up_n (by omega), up_n (by omega), up_n (by omega), up_n (by omega), up_n (by omega), up_n (by omega)]
  · exact fun b hb => ⟨k_ztn hb, rfl, rfl, fun f => k_s1n hb, rfl, rfl, rfl, rfl⟩
end KM
