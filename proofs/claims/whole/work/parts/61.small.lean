/-! asks, deals, rows, the log: short ones -/
section KO
variable {g : e_G} {Ψ : e_Q} {Z : k_Z} {P : k_P} {U : k_U} {h : e_Hp} {B : Nat → Option e_Cl} {N : Nat}
def k_aSet (P : k_P) (a : Nat) (p k x y : Int32) : k_P := k_wr (k_wr (k_wr (k_wr (k_wr (k_wr P 20 a p) 21 a k) 22 a x) 23 a y) 24 a 0) 25 a 0
theorem h_askSet (hg : e_GK g) {a : Nat} {p k x y : Int32} (t : Z.1 a = 2) (q : Ψ none (K_H Z (k_aSet P a p k x y) U h)) : e_Sc g 1 [.ref a, .int p, .int k, .int x, .int y] (K_H Z P U h) Ψ := by
  refine e_call (cd := cd1) hg ok1 (by rw [mL1]; exact Nat.le_of_ble_eq_true rfl) ?_
  rw [mL1]
  simp only [x_ini, x_inr, x_inn, x_inq, x_inl, x_in0, x_rp0, x_rps, Nat.reduceSub]
  simp (decide := true) (disch := first | assumption | omega) only [↓u1_0, ↓x_nil, ↓x_om, ↓x_aload_0r, ↓x_aload_0n, ↓x_aload_0q, ↓x_iload_1, ↓x_putfield, ft_1_9, x_fit0, x_fit1, x_fit2r, x_fit2n, x_fit2q, ↓x_iload_2, ft_1_15, ↓x_iload_3, ft_1_18, ↓x_iload_4, ft_1_21, ↓x_iconst_0, ft_1_24, ft_1_27, ↓x_return, Int.reduceAdd, Nat.reduceAdd, true_and, and_true, true_or, or_true, false_or, or_false, reduceCtorEq, false_and, and_false, and_self, or_self, false_implies, true_implies, not_true_eq_false, not_false_eq_true, implies_true, Option.some.injEq, kg1, kv1_0, kw1_0, k_rs, k_rn, k_r2, k_c2, kv1_1, kw1_1, kv1_2, kw1_2, kv1_3, kw1_3, kv1_4, kw1_4, kv1_5, kw1_5, up_s, up_n]
  exact q
def k_nLeg (P : k_P) (a : Nat) : k_P := k_wr (k_wr P 24 a (P.1 24 a + 1)) 25 a 0
theorem h_nextLeg (hg : e_GK g) {a : Nat} (t : Z.1 a = 2) (q : Ψ none (K_H Z (k_nLeg P a) U h)) : e_Sc g 2 [.ref a] (K_H Z P U h) Ψ := by
  refine e_call (cd := cd2) hg ok2 (by rw [mL2]; exact Nat.le_of_ble_eq_true rfl) ?_
  rw [mL2]
  simp only [x_ini, x_inr, x_inn, x_inq, x_inl, x_in0, x_rp0, x_rps, Nat.reduceSub]
  simp (decide := true) (disch := first | assumption | omega) only [↓u2_0, ↓x_nil, ↓x_om, ↓x_aload_0r, ↓x_aload_0n, ↓x_aload_0q, ↓x_dup_i, ↓x_dup_r, ↓x_dup_n, ↓x_getfield, ft_1_24, ↓x_iconst_1, ↓x_iadd, ↓x_putfield, x_fit0, x_fit1, x_fit2r, x_fit2n, x_fit2q, ↓x_iconst_0, ft_1_27, ↓x_return, Int.reduceAdd, Nat.reduceAdd, true_and, and_true, true_or, or_true, false_or, or_false, reduceCtorEq, false_and, and_false, and_self, or_self, false_implies, true_implies, not_true_eq_false, not_false_eq_true, implies_true, Option.some.injEq, kg1, kv1_4, kw1_4, k_rs, k_rn, k_r2, k_c2, kv1_5, kw1_5, up_s, up_n]
  exact q
def k_lgK (P : k_P) (a : Nat) (x : Int32) : Int32 := if P.1 21 a = 19 then (if x = P.1 20 a then 16 else 15) else if P.1 21 a = 18 ∧ P.1 24 a = 1 then 1 else P.1 21 a
theorem h_legKind (hg : e_GK g) {a : Nat} {x : Int32} (t : Z.1 a = 2) (q : Ψ (some (.int (k_lgK P a x))) (K_H Z P U h)) : e_Sc g 3 [.ref a, .int x] (K_H Z P U h) Ψ := by
  refine e_call (cd := cd3) hg ok3 (by rw [mL3]; exact Nat.le_of_ble_eq_true rfl) ?_
  rw [mL3]
  simp only [x_ini, x_inr, x_inn, x_inq, x_inl, x_in0, x_rp0, x_rps, Nat.reduceSub]
  simp (decide := true) (disch := first | assumption | omega) only [↓u3_0, ↓u3_22, ↓u3_24, ↓u3_25, ↓u3_46, ↓u3_50, ↓x_nil, ↓x_om, ↓x_aload_0r, ↓x_aload_0n, ↓x_aload_0q, ↓x_getfield, ft_1_15, ↓x_bipush_19, ↓x_icmp_ne, ↓x_iload_1, ft_1_9, ↓x_bipush_16, ↓x_goto, ↓x_bipush_15, ↓x_ireturn, rt3, ↓x_bipush_18, ft_1_24, ↓x_iconst_1, Int.reduceAdd, Nat.reduceAdd, true_and, and_true, true_or, or_true, false_or, or_false, reduceCtorEq, false_and, and_false, and_self, or_self, false_implies, true_implies, not_true_eq_false, not_false_eq_true, implies_true, Option.some.injEq, kg1, kv1_1, kv1_0, kv1_4, up_s, up_n]
  refine ⟨fun c => ⟨fun c2 => b_q q (by rw [k_lgK, if_pos c, if_pos c2]), fun c2 => b_q q (by rw [k_lgK, if_pos c, if_neg c2])⟩, fun c => ⟨fun c2 => ⟨fun c3 => b_q q (by rw [k_lgK, if_neg c, if_pos ⟨c2, c3⟩]), fun c3 => b_q q (by rw [k_lgK, if_neg c, if_neg (fun z => c3 z.2)])⟩, fun c2 => b_q q (by rw [k_lgK, if_neg c, if_neg (fun z => c2 z.1)])⟩⟩
theorem h_isUnderWay (hg : e_GK g) {d : Nat} (t : Z.1 d = 3) (q : Ψ (some (.int (b_v (P.1 43 d == 1 || P.1 43 d == 2)))) (K_H Z P U h)) : e_Sc g 5 [.ref d] (K_H Z P U h) Ψ := by
  refine e_call (cd := cd5) hg ok5 (by rw [mL5]; exact Nat.le_of_ble_eq_true rfl) ?_
  rw [mL5]
  simp only [x_ini, x_inr, x_inn, x_inq, x_inl, x_in0, x_rp0, x_rps, Nat.reduceSub]
  simp (decide := true) (disch := first | assumption | omega) only [↓u5_0, ↓u5_16, ↓u5_20, ↓u5_21, ↓x_nil, ↓x_om, ↓x_aload_0r, ↓x_aload_0n, ↓x_aload_0q, ↓x_getfield, ft_2_9, ↓x_iconst_1, ↓x_icmp_eq, ↓x_iconst_2, ↓x_icmp_ne, ↓x_goto, ↓x_iconst_0, ↓x_ireturn, rt5, Int.reduceAdd, Nat.reduceAdd, true_and, and_true, true_or, or_true, false_or, or_false, reduceCtorEq, false_and, and_false, and_self, or_self, false_implies, true_implies, not_true_eq_false, not_false_eq_true, implies_true, Option.some.injEq, kg2, kv2_3, up_s, up_n]
  refine ⟨fun c => b_q q (by simp [c, b_v]), fun c => ⟨fun c2 => b_q q (by simp [c2, b_v]), fun c2 => b_q q (by simp [c, c2, b_v])⟩⟩
def k_mkL (P : k_P) (d l : Nat) : k_P := k_wa P (d + 2) (va_up (P.2 (d + 2)) l (P.1 46 d))
theorem h_markLevel (hg : e_GK g) {d l : Nat} (hl : l < 5) (e : P.1 45 d = nI l) (t : Z.1 d = 3) (t2 : Z.1 (d + 2) = 105) (q : Ψ none (K_H Z (k_mkL P d l) U h)) : e_Sc g 6 [.ref d] (K_H Z P U h) Ψ := by
  refine e_call (cd := cd6) hg ok6 (by rw [mL6]; exact Nat.le_of_ble_eq_true rfl) ?_
  rw [mL6]
  simp only [x_ini, x_inr, x_inn, x_inq, x_inl, x_in0, x_rp0, x_rps, Nat.reduceSub]
  simp (decide := true) (disch := first | assumption | omega) only [↓u6_0, ↓u6_32, ↓x_nil, ↓x_om, ↓x_aload_0r, ↓x_aload_0n, ↓x_aload_0q, ↓x_getfield, ft_2_38, ↓x_if_lt, ft_2_25, ↓x_alen, ↓x_icmp_ge, ft_2_41, ↓x_iastore, ↓x_return, Int.reduceAdd, Nat.reduceAdd, true_and, and_true, true_or, or_true, false_or, or_false, reduceCtorEq, false_and, and_false, and_self, or_self, false_implies, true_implies, not_true_eq_false, not_false_eq_true, implies_true, Option.some.injEq, i_add, i_a1, i_m8, i_m5, i_m401, i_40, i_80, i_r40, i_s1, i_am1, i_sub, i_lt, i_le, i_eq, i_m1, il_le_0, il_ge_0, il_lt_0, il_gt_0, il_eq_0, il_le_1, il_ge_1, il_lt_1, il_gt_1, il_eq_1, il_le_2, il_ge_2, il_lt_2, il_gt_2, il_eq_2, il_le_3, il_ge_3, il_lt_3, il_gt_3, il_eq_3, il_le_4, il_ge_4, il_lt_4, il_gt_4, il_eq_4, il_le_5, il_ge_5, il_lt_5, il_gt_5, il_eq_5, il_le_6, il_ge_6, il_lt_6, il_gt_6, il_eq_6, il_le_7, il_ge_7, il_lt_7, il_gt_7, il_eq_7, il_le_8, il_ge_8, il_lt_8, il_gt_8, il_eq_8, il_le_12, il_ge_12, il_lt_12, il_gt_12, il_eq_12, il_le_16, il_ge_16, il_lt_16, il_gt_16, il_eq_16, il_le_20, il_ge_20, il_lt_20, il_gt_20, il_eq_20, il_le_21, il_ge_21, il_lt_21, il_gt_21, il_eq_21, il_le_40, il_ge_40, il_lt_40, il_gt_40, il_eq_40, il_le_100, il_ge_100, il_lt_100, il_gt_100, il_eq_100, il_le_120, il_ge_120, il_lt_120, il_gt_120, il_eq_120, il_le_200, il_ge_200, il_lt_200, il_gt_200, il_eq_200, il_le_400, il_ge_400, il_lt_400, il_gt_400, il_eq_400, il_le_700, il_ge_700, il_lt_700, il_gt_700, il_eq_700, e, kg2, kv2_5, kv2_15, kl5, kl8, kl12, kl16, kl20, kl21, of_5, of_8, of_12, of_16, of_40, kv2_6, kgI5, kgI8, kgI12, kgI16, kwI5, kwI8, kwI12, kwI16, k_as, k_a1, k_r2, i_in, i_cl, up_s, up_n]
  exact ⟨fun c => by omega, fun _ => ⟨fun c => by omega, fun _ => q⟩⟩
def k_lvM (P : k_P) (d l : Nat) : Int32 := if 0 < l then P.2 (d + 2) l else 0
theorem h_levelMark (hg : e_GK g) {d l : Nat} (hl : l < 5) (e : P.1 45 d = nI l) (t : Z.1 d = 3) (t2 : Z.1 (d + 2) = 105) (q : Ψ (some (.int (k_lvM P d l))) (K_H Z P U h)) : e_Sc g 7 [.ref d] (K_H Z P U h) Ψ := by
  refine e_call (cd := cd7) hg ok7 (by rw [mL7]; exact Nat.le_of_ble_eq_true rfl) ?_
  rw [mL7]
  simp only [x_ini, x_inr, x_inn, x_inq, x_inl, x_in0, x_rp0, x_rps, Nat.reduceSub]
  simp (decide := true) (disch := first | assumption | omega) only [↓u7_0, ↓u7_31, ↓u7_32, ↓x_nil, ↓x_om, ↓x_aload_0r, ↓x_aload_0n, ↓x_aload_0q, ↓x_getfield, ft_2_38, ↓x_if_le, ft_2_25, ↓x_alen, ↓x_icmp_ge, ↓x_iaload, ↓x_goto, ↓x_iconst_0, ↓x_ireturn, rt7, Int.reduceAdd, Nat.reduceAdd, true_and, and_true, true_or, or_true, false_or, or_false, reduceCtorEq, false_and, and_false, and_self, or_self, false_implies, true_implies, not_true_eq_false, not_false_eq_true, implies_true, Option.some.injEq, i_add, i_a1, i_m8, i_m5, i_m401, i_40, i_80, i_r40, i_s1, i_am1, i_sub, i_lt, i_le, i_eq, i_m1, il_le_0, il_ge_0, il_lt_0, il_gt_0, il_eq_0, il_le_1, il_ge_1, il_lt_1, il_gt_1, il_eq_1, il_le_2, il_ge_2, il_lt_2, il_gt_2, il_eq_2, il_le_3, il_ge_3, il_lt_3, il_gt_3, il_eq_3, il_le_4, il_ge_4, il_lt_4, il_gt_4, il_eq_4, il_le_5, il_ge_5, il_lt_5, il_gt_5, il_eq_5, il_le_6, il_ge_6, il_lt_6, il_gt_6, il_eq_6, il_le_7, il_ge_7, il_lt_7, il_gt_7, il_eq_7, il_le_8, il_ge_8, il_lt_8, il_gt_8, il_eq_8, il_le_12, il_ge_12, il_lt_12, il_gt_12, il_eq_12, il_le_16, il_ge_16, il_lt_16, il_gt_16, il_eq_16, il_le_20, il_ge_20, il_lt_20, il_gt_20, il_eq_20, il_le_21, il_ge_21, il_lt_21, il_gt_21, il_eq_21, il_le_40, il_ge_40, il_lt_40, il_gt_40, il_eq_40, il_le_100, il_ge_100, il_lt_100, il_gt_100, il_eq_100, il_le_120, il_ge_120, il_lt_120, il_gt_120, il_eq_120, il_le_200, il_ge_200, il_lt_200, il_gt_200, il_eq_200, il_le_400, il_ge_400, il_lt_400, il_gt_400, il_eq_400, il_le_700, il_ge_700, il_lt_700, il_gt_700, il_eq_700, e, kg2, kv2_5, kv2_15, kl5, kl8, kl12, kl16, kl20, kl21, of_5, of_8, of_12, of_16, of_40, kgI5, kgI8, kgI12, kgI16, kwI5, kwI8, kwI12, kwI16, k_as, k_a1, k_r2, i_in, i_cl, up_s, up_n]
  trace_state
  sorry
def k_outc (P : k_P) (d : Nat) : Int32 := if P.1 43 d = 4 then 2 else if P.1 43 d = 2 then 0 else if P.1 49 d = 0 then 1 else -10 - P.1 49 d
theorem h_outcomeD (hg : e_GK g) {d : Nat} (t : Z.1 d = 3) (q : Ψ (some (.int (k_outc P d))) (K_H Z P U h)) : e_Sc g 8 [.ref d] (K_H Z P U h) Ψ := by
  refine e_call (cd := cd8) hg ok8 (by rw [mL8]; exact Nat.le_of_ble_eq_true rfl) ?_
  rw [mL8]
  simp only [x_ini, x_inr, x_inn, x_inq, x_inl, x_in0, x_rp0, x_rps, Nat.reduceSub]
  simp (decide := true) (disch := first | assumption | omega) only [↓u8_0, ↓u8_10, ↓u8_20, ↓u8_31, ↓u8_38, ↓x_nil, ↓x_om, ↓x_aload_0r, ↓x_aload_0n, ↓x_aload_0q, ↓x_getfield, ft_2_9, ↓x_iconst_4, ↓x_icmp_ne, ↓x_iconst_2, ↓x_ireturn, rt8, ↓x_iconst_0, ft_2_44, ↓x_if_ne, ↓x_iconst_1, ↓x_goto, ↓x_bipush_m10, ↓x_isub, Int.reduceAdd, Nat.reduceAdd, true_and, and_true, true_or, or_true, false_or, or_false, reduceCtorEq, false_and, and_false, and_self, or_self, false_implies, true_implies, not_true_eq_false, not_false_eq_true, implies_true, Option.some.injEq, kg2, kv2_3, kv2_9, up_s, up_n]
  exact ⟨fun c => b_q q (by rw [k_outc, if_pos c]), fun c => ⟨fun c2 => b_q q (by rw [k_outc, if_neg c, if_pos c2]), fun c2 => ⟨fun c3 => b_q q (by rw [k_outc, if_neg c, if_neg c2, if_pos c3]), fun c3 => b_q q (by rw [k_outc, if_neg c, if_neg c2, if_neg c3])⟩⟩⟩
def k_key (P : k_P) (d : Nat) (r : Int32) : Int32 := if r = 1 then P.1 46 d else if r = 2 then P.1 41 d else if r = 3 then P.1 42 d else 0
theorem h_keyBy (hg : e_GK g) {d : Nat} {r : Int32} (t : Z.1 d = 3) (q : Ψ (some (.int (k_key P d r))) (K_H Z P U h)) : e_Sc g 10 [.ref d, .int r] (K_H Z P U h) Ψ := by
  refine e_call (cd := cd10) hg ok10 (by rw [mL10]; exact Nat.le_of_ble_eq_true rfl) ?_
  rw [mL10]
  simp only [x_ini, x_inr, x_inn, x_inq, x_inl, x_in0, x_rp0, x_rps, Nat.reduceSub]
  simp (decide := true) (disch := first | assumption | omega) only [↓u10_0, ↓u10_28, ↓u10_33, ↓u10_38, ↓u10_43, ↓x_nil, ↓x_om, ↓x_iload_1, ↓x_tsw, ↓x_sw0, ↓x_swc, x_ti1, x_ti2, x_ti3, x_tl1, x_tg3, ↓x_aload_0r, ↓x_aload_0n, ↓x_aload_0q, ↓x_getfield, ft_2_41, ↓x_ireturn, rt10, ft_2_32, ft_2_35, ↓x_iconst_0, Int.reduceAdd, Nat.reduceAdd, true_and, and_true, true_or, or_true, false_or, or_false, reduceCtorEq, false_and, and_false, and_self, or_self, false_implies, true_implies, not_true_eq_false, not_false_eq_true, implies_true, Option.some.injEq, kg2, kv2_6, kv2_1, kv2_2, up_s, up_n]
  have e : (r < 1 ∨ 3 < r) → ∀ m : Nat, 1 ≤ m → m ≤ 3 → ¬ r = nI m := fun c m h1 h2 z => by
    subst z
    rw [show (1 : Int32) = nI 1 from by decide, show (3 : Int32) = nI 3 from by decide, i_lt (by omega) (by omega), i_lt (by omega) (by omega)] at c
    omega
  refine ⟨fun c => b_q q ?_, fun c => b_q q (by rw [k_key, if_pos c]), fun c => b_q q (by subst c; rfl), fun c => b_q q (by subst c; rfl)⟩
  have e1 : ¬ r = 1 := e c 1 (by omega) (by omega)
  have e2 : ¬ r = 2 := e c 2 (by omega) (by omega)
  have e3 : ¬ r = 3 := e c 3 (by omega) (by omega)
  rw [k_key, if_neg e1, if_neg e2, if_neg e3]
def k_ahd (P : k_P) (d u : Nat) (r : Int32) : Bool := decide (k_key P d r < k_key P u r) || (k_key P d r == k_key P u r && decide (P.1 40 u < P.1 40 d))
theorem h_goesAheadOf (hg : e_GK g) {d u : Nat} {r : Int32} (t : Z.1 d = 3) (tu : Z.1 u = 3) (q : Ψ (some (.int (b_v (k_ahd P d u r)))) (K_H Z P U h)) : e_Sc g 9 [.ref d, .ref u, .int r] (K_H Z P U h) Ψ := by
  refine e_call (cd := cd9) hg ok9 (by rw [mL9]; exact Nat.le_of_ble_eq_true rfl) ?_
  rw [mL9]
  simp only [x_ini, x_inr, x_inn, x_inq, x_inl, x_in0, x_rp0, x_rps, Nat.reduceSub]
  simp (decide := true) (disch := first | assumption | omega) only [↓u9_0, ↓u9_36, ↓u9_40, ↓u9_41, ↓x_nil, ↓x_om, ↓x_aload_0r, ↓x_aload_0n, ↓x_aload_0q, ↓x_iload_2, ↓x_invokevirtual, mt_2_47, x_ps0, x_ps1, x_l40, x_l41, x_l42, x_l43, x_l44, ↓x_cv1, ↓x_istore_3, x_cl_i, x_cl_r, x_cl_n, x_cl_q, x_cl_0, x_cl_l, ↓x_aload_1r, ↓x_aload_1n, ↓x_aload_1q, ↓x_istore_4, ↓x_iload_3, ↓x_iload_4, ↓x_icmp_lt, ↓x_icmp_ne, ↓x_getfield, ft_2_29, ↓x_icmp_le, ↓x_iconst_1, ↓x_goto, ↓x_iconst_0, ↓x_ireturn, rt9, Int.reduceAdd, Nat.reduceAdd, true_and, and_true, true_or, or_true, false_or, or_false, reduceCtorEq, false_and, and_false, and_self, or_self, false_implies, true_implies, not_true_eq_false, not_false_eq_true, implies_true, Option.some.injEq, ki2, kg2, kv2_0, up_s, up_n]
  refine h_keyBy hg t ?_
  simp (decide := true) (disch := first | assumption | omega) only [↓u9_0, ↓u9_36, ↓u9_40, ↓u9_41, ↓x_nil, ↓x_om, ↓x_aload_0r, ↓x_aload_0n, ↓x_aload_0q, ↓x_iload_2, ↓x_invokevirtual, mt_2_47, x_ps0, x_ps1, x_l40, x_l41, x_l42, x_l43, x_l44, ↓x_cv1, ↓x_istore_3, x_cl_i, x_cl_r, x_cl_n, x_cl_q, x_cl_0, x_cl_l, ↓x_aload_1r, ↓x_aload_1n, ↓x_aload_1q, ↓x_istore_4, ↓x_iload_3, ↓x_iload_4, ↓x_icmp_lt, ↓x_icmp_ne, ↓x_getfield, ft_2_29, ↓x_icmp_le, ↓x_iconst_1, ↓x_goto, ↓x_iconst_0, ↓x_ireturn, rt9, Int.reduceAdd, Nat.reduceAdd, true_and, and_true, true_or, or_true, false_or, or_false, reduceCtorEq, false_and, and_false, and_self, or_self, false_implies, true_implies, not_true_eq_false, not_false_eq_true, implies_true, Option.some.injEq, ki2, kg2, kv2_0, up_s, up_n]
  refine h_keyBy hg tu ?_
  simp (decide := true) (disch := first | assumption | omega) only [↓u9_0, ↓u9_36, ↓u9_40, ↓u9_41, ↓x_nil, ↓x_om, ↓x_aload_0r, ↓x_aload_0n, ↓x_aload_0q, ↓x_iload_2, ↓x_invokevirtual, mt_2_47, x_ps0, x_ps1, x_l40, x_l41, x_l42, x_l43, x_l44, ↓x_cv1, ↓x_istore_3, x_cl_i, x_cl_r, x_cl_n, x_cl_q, x_cl_0, x_cl_l, ↓x_aload_1r, ↓x_aload_1n, ↓x_aload_1q, ↓x_istore_4, ↓x_iload_3, ↓x_iload_4, ↓x_icmp_lt, ↓x_icmp_ne, ↓x_getfield, ft_2_29, ↓x_icmp_le, ↓x_iconst_1, ↓x_goto, ↓x_iconst_0, ↓x_ireturn, rt9, Int.reduceAdd, Nat.reduceAdd, true_and, and_true, true_or, or_true, false_or, or_false, reduceCtorEq, false_and, and_false, and_self, or_self, false_implies, true_implies, not_true_eq_false, not_false_eq_true, implies_true, Option.some.injEq, ki2, kg2, kv2_0, up_s, up_n]
  refine ⟨fun c => b_q q (by simp [k_ahd, c, b_v]), fun c => ⟨fun c2 => ⟨fun c3 => b_q q ?_, fun c3 => b_q q ?_⟩, fun c2 => b_q q (by simp [k_ahd, c, c2, b_v])⟩⟩
  · rw [b_vf]; unfold k_ahd; rw [decide_eq_false c, decide_eq_false (Int32.not_lt.mpr c3)]; simp
  · rw [b_vt]; unfold k_ahd; rw [decide_eq_true (Int32.not_le.mp c3)]; simp [c2]
-- rows
def k_actO (P : k_P) (x d : Nat) : Bool := P.1 140 x == 2 && P.1 141 x == P.1 40 d && P.1 149 x == 0
theorem h_isActOf (hg : e_GK g) {x d : Nat} (t : Z.1 x = 8) (td : Z.1 d = 3) (q : Ψ (some (.int (b_v (k_actO P x d)))) (K_H Z P U h)) : e_Sc g 35 [.ref x, .ref d] (K_H Z P U h) Ψ := by
  refine e_call (cd := cd35) hg ok35 (by rw [mL35]; exact Nat.le_of_ble_eq_true rfl) ?_
  rw [mL35]
  simp only [x_ini, x_inr, x_inn, x_inq, x_inl, x_in0, x_rp0, x_rps, Nat.reduceSub]
  simp (decide := true) (disch := first | assumption | omega) only [↓u35_0, ↓u35_30, ↓u35_31, ↓x_nil, ↓x_om, ↓x_aload_0r, ↓x_aload_0n, ↓x_aload_0q, ↓x_getfield, ft_7_15, ↓x_iconst_2, ↓x_icmp_ne, ft_7_18, ↓x_aload_1r, ↓x_aload_1n, ↓x_aload_1q, ft_7_39, ft_7_44, ↓x_if_ne, ↓x_iconst_1, ↓x_goto, ↓x_iconst_0, ↓x_ireturn, rt35, Int.reduceAdd, Nat.reduceAdd, true_and, and_true, true_or, or_true, false_or, or_false, reduceCtorEq, false_and, and_false, and_self, or_self, false_implies, true_implies, not_true_eq_false, not_false_eq_true, implies_true, Option.some.injEq, kg7, kv7_0, kv7_1, kg2, kv2_0, kv7_9, up_s, up_n]
  exact ⟨fun c => ⟨fun c2 => ⟨fun c3 => b_q q (by simp [k_actO, c, c2, c3, b_v]), fun c3 => b_q q (by simp [k_actO, c3, b_v])⟩, fun c2 => b_q q (by simp [k_actO, c2, b_v])⟩, fun c => b_q q (by simp [k_actO, c, b_v])⟩
def k_rtl (P : k_P) (x : Nat) (w : Int32) : Int32 := if w = 0 then P.1 140 x else if w = 1 then P.1 141 x else if w = 2 then P.1 142 x else if w = 3 then P.1 143 x else if w = 4 then P.1 144 x else if w = 5 then P.1 145 x else if w = 6 then P.1 146 x else P.1 147 x
theorem h_tellR (hg : e_GK g) {x : Nat} {w : Int32} (t : Z.1 x = 8) (q : Ψ (some (.int (k_rtl P x w))) (K_H Z P U h)) : e_Sc g 37 [.ref x, .int w] (K_H Z P U h) Ψ := by
  refine e_call (cd := cd37) hg ok37 (by rw [mL37]; exact Nat.le_of_ble_eq_true rfl) ?_
  rw [mL37]
  simp only [x_ini, x_inr, x_inn, x_inq, x_inl, x_in0, x_rp0, x_rps, Nat.reduceSub]
  simp (decide := true) (disch := first | assumption | omega) only [↓u37_0, ↓u37_44, ↓u37_49, ↓u37_54, ↓u37_59, ↓u37_64, ↓u37_69, ↓u37_74, ↓u37_79, ↓x_nil, ↓x_om, ↓x_iload_1, ↓x_tsw, ↓x_sw0, ↓x_swc, x_ti0, x_ti1, x_ti2, x_ti3, x_ti4, x_ti5, x_ti6, x_tl0, x_tg6, ↓x_aload_0r, ↓x_aload_0n, ↓x_aload_0q, ↓x_getfield, ft_7_15, ↓x_ireturn, rt37, ft_7_18, ft_7_21, ft_7_24, ft_7_27, ft_7_30, ft_7_33, ft_7_9, Int.reduceAdd, Nat.reduceAdd, true_and, and_true, true_or, or_true, false_or, or_false, reduceCtorEq, false_and, and_false, and_self, or_self, false_implies, true_implies, not_true_eq_false, not_false_eq_true, implies_true, Option.some.injEq, kg7, kv7_0, kv7_1, kv7_2, kv7_3, kv7_4, kv7_5, kv7_6, kv7_7, up_s, up_n]
  have e : (w < 0 ∨ 6 < w) → ∀ m : Nat, m ≤ 6 → ¬ w = nI m := fun c m h2 z => by
    subst z
    rw [show (0 : Int32) = nI 0 from by decide, show (6 : Int32) = nI 6 from by decide, i_lt (by omega) (by omega), i_lt (by omega) (by omega)] at c
    omega
  refine ⟨fun c => b_q q ?_, fun c => b_q q (by subst c; rfl), fun c => b_q q (by subst c; rfl), fun c => b_q q (by subst c; rfl), fun c => b_q q (by subst c; rfl), fun c => b_q q (by subst c; rfl), fun c => b_q q (by subst c; rfl), fun c => b_q q (by subst c; rfl)⟩
  have e0 : ¬ w = 0 := e c 0 (by omega)
  have e1 : ¬ w = 1 := e c 1 (by omega)
  have e2 : ¬ w = 2 := e c 2 (by omega)
  have e3 : ¬ w = 3 := e c 3 (by omega)
  have e4 : ¬ w = 4 := e c 4 (by omega)
  have e5 : ¬ w = 5 := e c 5 (by omega)
  have e6 : ¬ w = 6 := e c 6 (by omega)
  rw [k_rtl, if_neg e0, if_neg e1, if_neg e2, if_neg e3, if_neg e4, if_neg e5, if_neg e6]
def k_wrn (P : k_P) (x : Nat) : Int64 := if P.1 143 x = 18 then (1 : Int64) <<< ((P.1 145 x).toInt64 &&& 63) else if P.1 143 x = 19 then ((1 : Int64) <<< ((P.1 142 x).toInt64 &&& 63)) ||| ((1 : Int64) <<< ((P.1 145 x).toInt64 &&& 63)) else if P.1 143 x = 21 ∨ y_rd (P.1 143 x) (P.1 144 x) = true then 0 else (1 : Int64) <<< ((P.1 142 x).toInt64 &&& 63)
theorem h_written (hg : e_GK g) {x k : Nat} (hk : k < 22) (e : P.1 143 x = nI k) (t : Z.1 x = 8) (q : Ψ (some (.long (k_wrn P x))) (K_H Z P U h)) : e_Sc g 36 [.ref x] (K_H Z P U h) Ψ := by
  refine e_call (cd := cd36) hg ok36 (by rw [mL36]; exact Nat.le_of_ble_eq_true rfl) ?_
  rw [mL36]
  simp only [x_ini, x_inr, x_inn, x_inq, x_inl, x_in0, x_rp0, x_rps, Nat.reduceSub]
  simp (decide := true) (disch := first | assumption | omega) only [↓u36_0, ↓u36_16, ↓u36_39, ↓u36_62, ↓u36_66, ↓u36_72, ↓x_nil, ↓x_om, ↓x_aload_0r, ↓x_aload_0n, ↓x_aload_0q, ↓x_getfield, ft_7_24, ↓x_bipush_18, ↓x_icmp_ne, ↓x_lconst_1, ft_7_30, ↓x_lshl, ↓x_lreturn, ↓x_bipush_19, ft_7_21, ↓x_lor, ↓x_bipush_21, ↓x_icmp_eq, ft_7_27, ↓x_invokestatic, mt_7_48, x_ps0, x_ps1, x_l40, x_l41, x_l42, x_l43, x_l44, ↓x_cs2_3, ↓x_if_eq, ↓x_lconst_0, ↓x_goto, Int.reduceAdd, Nat.reduceAdd, true_and, and_true, true_or, or_true, false_or, or_false, reduceCtorEq, false_and, and_false, and_self, or_self, false_implies, true_implies, not_true_eq_false, not_false_eq_true, implies_true, Option.some.injEq, e, kg7, kv7_3, kv7_5, kv7_2, kv7_4, up_s, up_n]
  trace_state
  sorry
theorem h_contrary (hg : e_GK g) {x n s : Nat} {i : Int32} (t : Z.1 x = 8) (tn : Z.1 n = 0) (q : Ψ (some (.ref n)) (K_H (k_zt Z n 8) (k_set1 P n (k_rwF 3 (P.1 141 x) (P.1 142 x) (P.1 143 x) (P.1 144 x) (P.1 145 x) (P.1 146 x) i)) U (B, (n + 1, s + 10)))) : e_Sc g 34 [.ref x, .int i] (K_H Z P U (B, (n, s))) Ψ := by
  refine e_call (cd := cd34) hg ok34 (by rw [mL34]; exact Nat.le_of_ble_eq_true rfl) ?_
  rw [mL34]
  simp only [x_ini, x_inr, x_inn, x_inq, x_inl, x_in0, x_rp0, x_rps, Nat.reduceSub]
  simp (decide := true) (disch := first | assumption | omega) only [↓u34_0, ↓x_nil, ↓x_om, ↓x_new, ct_7_10, ↓x_dup_i, ↓x_dup_r, ↓x_dup_n, ↓x_iconst_3, ↓x_aload_0r, ↓x_aload_0n, ↓x_aload_0q, ↓x_getfield, ft_7_18, ft_7_21, ft_7_24, ft_7_27, ft_7_30, ft_7_33, ↓x_invokespecial, mt_7_36, x_ps0, x_ps1, x_l40, x_l41, x_l42, x_l43, x_l44, ↓x_ci7_2, ↓x_astore_2r, ↓x_astore_2n, ↓x_astore_2q, x_cl_i, x_cl_r, x_cl_n, x_cl_q, x_cl_0, x_cl_l, ↓x_aload_2r, ↓x_aload_2n, ↓x_aload_2q, ↓x_iload_1, ↓x_putfield, ft_7_9, x_fit0, x_fit1, x_fit2r, x_fit2n, x_fit2q, ↓x_areturn_r, ↓x_areturn_n, ↓x_areturn_q, Int.reduceAdd, Nat.reduceAdd, true_and, and_true, true_or, or_true, false_or, or_false, reduceCtorEq, false_and, and_false, and_self, or_self, false_implies, true_implies, not_true_eq_false, not_false_eq_true, implies_true, Option.some.injEq, k_alO, nf7, k_c2, kg7, kv7_1, kv7_2, kv7_3, kv7_4, kv7_5, kv7_6, ki7, kv7_7, kw7_7, k_rs, k_rn, k_r2, k_c2, up_s, up_n]
  trace_state
  sorry
end KO
