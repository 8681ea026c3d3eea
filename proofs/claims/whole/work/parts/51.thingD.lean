/-! maps, contraries, run -/
section KF
variable {g : e_G} {Ψ : e_Q} {Z : k_Z} {P : k_P} {U : k_U} {h : e_Hp}
def k_bit (j : Nat) : Int32 := (1 : Int32) <<< (nI j &&& 31)
def k_mb (k : Int32) : Int32 := if k = 12 then 16 else if k = 13 then 17 else 18
def k_map (P : k_P) (t p j : Nat) (k b : Int32) : k_P :=
  let P1 := k_body P p (k_mb k)
  let there := k_has (P.1 223 t) (nI j)
  if k = 12 then k_wr (k_wa (k_wr (k_wr P1 100 p (if there = true then P.2 (t + 1) j else 0)) 102 p (if there = true then 1 else 0)) (t + 1) (va_up (P.2 (t + 1)) j b)) 223 t (P.1 223 t ||| k_bit j)
  else if there = true then
    (if k = 13 then k_wr (k_wr P1 100 p (P.2 (t + 1) j)) 223 t (P.1 223 t &&& (k_bit j ^^^ (-1))) else k_wr P1 100 p (P.2 (t + 1) j))
  else k_wr P1 101 p 1
theorem h_runOnMap (hg : e_GK g) {t p j : Nat} {k b : Int32} (hj : j < 8) (tt : Z.1 t = 12) (tc : Z.1 (t + 1) = 108) (tp : Z.1 p = 6) (tb : Z.1 (p + 1) = 116) (q : Ψ none (K_H Z (k_map P t p j k b) U h)) : e_Sc g 82 [.ref t, .int k, .int (nI j), .int b, .ref p] (K_H Z P U h) Ψ := by
  have ne : t + 1 ≠ p + 1 := k_nea tc tb
  refine e_call (cd := cd82) hg ok82 (by rw [mL82]; exact Nat.le_of_ble_eq_true rfl) ?_
  rw [mL82]
  simp only [x_ini, x_inr, x_inn, x_inq, x_inl, x_in0, x_rp0, x_rps, Nat.reduceSub]
  have fin : e_Sm g 82 11 cd82 Ψ 37 [some (.ref t), some (.int k), some (.int (nI j)), some (.int b), some (.ref p), none] [.int (k_mb k), .ref p] (K_H Z P U h) := by
    rw [u82_37]
    simp (decide := true) (disch := first | assumption | omega) only [↓u82_0, ↓u82_10, ↓u82_11, ↓u82_24, ↓u82_35, ↓u82_65, ↓u82_81, ↓u82_82, ↓u82_102, ↓u82_103, ↓u82_128, ↓u82_148, ↓x_nil, ↓x_om, ↓x_iload_2, ↓x_if_lt, ↓x_bipush_8, ↓x_icmp_lt, ↓x_return, ↓x_aload_4r, ↓x_aload_4n, ↓x_aload_4q, ↓x_iload_1, ↓x_bipush_12, ↓x_icmp_ne, ↓x_bipush_16, ↓x_goto, ↓x_bipush_13, ↓x_bipush_17, ↓x_bipush_18, ↓x_invokevirtual, mt_11_49, x_ps0, x_ps1, x_l40, x_l41, x_l42, x_l43, x_l44, ↓x_cv1, ↓x_aload_0r, ↓x_aload_0n, ↓x_aload_0q, mt_11_46, ↓x_istore_5, x_cl_i, x_cl_r, x_cl_n, x_cl_q, x_cl_0, x_cl_l, ↓x_iload_5, ↓x_if_ne, ↓x_icmp_eq, ↓x_iconst_1, ↓x_putfield, ft_11_91, x_fit0, x_fit1, x_fit2r, x_fit2n, x_fit2q, ↓x_if_eq, ↓x_getfield, ft_11_9, ↓x_iaload, ↓x_iconst_0, ft_11_55, ft_11_96, ↓x_iload_3, ↓x_iastore, ↓x_dup_i, ↓x_dup_r, ↓x_dup_n, ft_11_29, ↓x_ishl, ↓x_ior, ↓x_iconst_m1, ↓x_ixor, ↓x_iand, Int.reduceAdd, Nat.reduceAdd, true_and, and_true, true_or, or_true, false_or, or_false, reduceCtorEq, false_and, and_false, and_self, or_self, false_implies, true_implies, not_true_eq_false, not_false_eq_true, implies_true, Option.some.injEq, i_add, i_a1, i_m8, i_m5, i_m401, i_40, i_80, i_r40, i_s1, i_am1, i_sub, i_lt, i_le, i_eq, i_m1, il_le_0, il_ge_0, il_lt_0, il_gt_0, il_eq_0, il_le_1, il_ge_1, il_lt_1, il_gt_1, il_eq_1, il_le_2, il_ge_2, il_lt_2, il_gt_2, il_eq_2, il_le_3, il_ge_3, il_lt_3, il_gt_3, il_eq_3, il_le_4, il_ge_4, il_lt_4, il_gt_4, il_eq_4, il_le_5, il_ge_5, il_lt_5, il_gt_5, il_eq_5, il_le_6, il_ge_6, il_lt_6, il_gt_6, il_eq_6, il_le_7, il_ge_7, il_lt_7, il_gt_7, il_eq_7, il_le_8, il_ge_8, il_lt_8, il_gt_8, il_eq_8, il_le_12, il_ge_12, il_lt_12, il_gt_12, il_eq_12, il_le_16, il_ge_16, il_lt_16, il_gt_16, il_eq_16, il_le_20, il_ge_20, il_lt_20, il_gt_20, il_eq_20, il_le_21, il_ge_21, il_lt_21, il_gt_21, il_eq_21, il_le_40, il_ge_40, il_lt_40, il_gt_40, il_eq_40, il_le_100, il_ge_100, il_lt_100, il_gt_100, il_eq_100, il_le_120, il_ge_120, il_lt_120, il_gt_120, il_eq_120, il_le_200, il_ge_200, il_lt_200, il_gt_200, il_eq_200, il_le_400, il_ge_400, il_lt_400, il_gt_400, il_eq_400, il_le_700, il_ge_700, il_lt_700, il_gt_700, il_eq_700, ki5, ki11, kg5, kv5_1, kw5_1, k_rs, k_rn, k_r2, k_c2, kg11, kv11_4, kgI5, kgI8, kgI12, kgI16, kwI5, kwI8, kwI12, kwI16, k_as, k_a1, i_in, i_cl, kv5_0, kw5_0, kv5_2, kw5_2, kv11_3, kw11_3, up_s, up_n]
    refine h_body hg tp tb ?_
    simp (decide := true) (disch := first | assumption | omega) only [↓u82_0, ↓u82_10, ↓u82_11, ↓u82_24, ↓u82_35, ↓u82_65, ↓u82_81, ↓u82_82, ↓u82_102, ↓u82_103, ↓u82_128, ↓u82_148, ↓x_nil, ↓x_om, ↓x_iload_2, ↓x_if_lt, ↓x_bipush_8, ↓x_icmp_lt, ↓x_return, ↓x_aload_4r, ↓x_aload_4n, ↓x_aload_4q, ↓x_iload_1, ↓x_bipush_12, ↓x_icmp_ne, ↓x_bipush_16, ↓x_goto, ↓x_bipush_13, ↓x_bipush_17, ↓x_bipush_18, ↓x_invokevirtual, mt_11_49, x_ps0, x_ps1, x_l40, x_l41, x_l42, x_l43, x_l44, ↓x_cv1, ↓x_aload_0r, ↓x_aload_0n, ↓x_aload_0q, mt_11_46, ↓x_istore_5, x_cl_i, x_cl_r, x_cl_n, x_cl_q, x_cl_0, x_cl_l, ↓x_iload_5, ↓x_if_ne, ↓x_icmp_eq, ↓x_iconst_1, ↓x_putfield, ft_11_91, x_fit0, x_fit1, x_fit2r, x_fit2n, x_fit2q, ↓x_if_eq, ↓x_getfield, ft_11_9, ↓x_iaload, ↓x_iconst_0, ft_11_55, ft_11_96, ↓x_iload_3, ↓x_iastore, ↓x_dup_i, ↓x_dup_r, ↓x_dup_n, ft_11_29, ↓x_ishl, ↓x_ior, ↓x_iconst_m1, ↓x_ixor, ↓x_iand, Int.reduceAdd, Nat.reduceAdd, true_and, and_true, true_or, or_true, false_or, or_false, reduceCtorEq, false_and, and_false, and_self, or_self, false_implies, true_implies, not_true_eq_false, not_false_eq_true, implies_true, Option.some.injEq, i_add, i_a1, i_m8, i_m5, i_m401, i_40, i_80, i_r40, i_s1, i_am1, i_sub, i_lt, i_le, i_eq, i_m1, il_le_0, il_ge_0, il_lt_0, il_gt_0, il_eq_0, il_le_1, il_ge_1, il_lt_1, il_gt_1, il_eq_1, il_le_2, il_ge_2, il_lt_2, il_gt_2, il_eq_2, il_le_3, il_ge_3, il_lt_3, il_gt_3, il_eq_3, il_le_4, il_ge_4, il_lt_4, il_gt_4, il_eq_4, il_le_5, il_ge_5, il_lt_5, il_gt_5, il_eq_5, il_le_6, il_ge_6, il_lt_6, il_gt_6, il_eq_6, il_le_7, il_ge_7, il_lt_7, il_gt_7, il_eq_7, il_le_8, il_ge_8, il_lt_8, il_gt_8, il_eq_8, il_le_12, il_ge_12, il_lt_12, il_gt_12, il_eq_12, il_le_16, il_ge_16, il_lt_16, il_gt_16, il_eq_16, il_le_20, il_ge_20, il_lt_20, il_gt_20, il_eq_20, il_le_21, il_ge_21, il_lt_21, il_gt_21, il_eq_21, il_le_40, il_ge_40, il_lt_40, il_gt_40, il_eq_40, il_le_100, il_ge_100, il_lt_100, il_gt_100, il_eq_100, il_le_120, il_ge_120, il_lt_120, il_gt_120, il_eq_120, il_le_200, il_ge_200, il_lt_200, il_gt_200, il_eq_200, il_le_400, il_ge_400, il_lt_400, il_gt_400, il_eq_400, il_le_700, il_ge_700, il_lt_700, il_gt_700, il_eq_700, kb_1, ki5, ki11, kg5, kv5_1, kw5_1, k_rs, k_rn, k_r2, k_c2, kg11, kv11_4, kgI5, kgI8, kgI12, kgI16, kwI5, kwI8, kwI12, kwI16, k_as, k_a1, i_in, i_cl, kv5_0, kw5_0, kv5_2, kw5_2, kv11_3, kw11_3, up_s, up_n]
    refine h_hasKey hg tt ?_
    rw [kb_1 (by decide)]
    simp (decide := true) (disch := first | assumption | omega) only [↓u82_0, ↓u82_10, ↓u82_11, ↓u82_24, ↓u82_35, ↓u82_65, ↓u82_81, ↓u82_82, ↓u82_102, ↓u82_103, ↓u82_128, ↓u82_148, ↓x_nil, ↓x_om, ↓x_iload_2, ↓x_if_lt, ↓x_bipush_8, ↓x_icmp_lt, ↓x_return, ↓x_aload_4r, ↓x_aload_4n, ↓x_aload_4q, ↓x_iload_1, ↓x_bipush_12, ↓x_icmp_ne, ↓x_bipush_16, ↓x_goto, ↓x_bipush_13, ↓x_bipush_17, ↓x_bipush_18, ↓x_invokevirtual, mt_11_49, x_ps0, x_ps1, x_l40, x_l41, x_l42, x_l43, x_l44, ↓x_cv1, ↓x_aload_0r, ↓x_aload_0n, ↓x_aload_0q, mt_11_46, ↓x_istore_5, x_cl_i, x_cl_r, x_cl_n, x_cl_q, x_cl_0, x_cl_l, ↓x_iload_5, ↓x_if_ne, ↓x_icmp_eq, ↓x_iconst_1, ↓x_putfield, ft_11_91, x_fit0, x_fit1, x_fit2r, x_fit2n, x_fit2q, ↓x_if_eq, ↓x_getfield, ft_11_9, ↓x_iaload, ↓x_iconst_0, ft_11_55, ft_11_96, ↓x_iload_3, ↓x_iastore, ↓x_dup_i, ↓x_dup_r, ↓x_dup_n, ft_11_29, ↓x_ishl, ↓x_ior, ↓x_iconst_m1, ↓x_ixor, ↓x_iand, Int.reduceAdd, Nat.reduceAdd, true_and, and_true, true_or, or_true, false_or, or_false, reduceCtorEq, false_and, and_false, and_self, or_self, false_implies, true_implies, not_true_eq_false, not_false_eq_true, implies_true, Option.some.injEq, i_add, i_a1, i_m8, i_m5, i_m401, i_40, i_80, i_r40, i_s1, i_am1, i_sub, i_lt, i_le, i_eq, i_m1, il_le_0, il_ge_0, il_lt_0, il_gt_0, il_eq_0, il_le_1, il_ge_1, il_lt_1, il_gt_1, il_eq_1, il_le_2, il_ge_2, il_lt_2, il_gt_2, il_eq_2, il_le_3, il_ge_3, il_lt_3, il_gt_3, il_eq_3, il_le_4, il_ge_4, il_lt_4, il_gt_4, il_eq_4, il_le_5, il_ge_5, il_lt_5, il_gt_5, il_eq_5, il_le_6, il_ge_6, il_lt_6, il_gt_6, il_eq_6, il_le_7, il_ge_7, il_lt_7, il_gt_7, il_eq_7, il_le_8, il_ge_8, il_lt_8, il_gt_8, il_eq_8, il_le_12, il_ge_12, il_lt_12, il_gt_12, il_eq_12, il_le_16, il_ge_16, il_lt_16, il_gt_16, il_eq_16, il_le_20, il_ge_20, il_lt_20, il_gt_20, il_eq_20, il_le_21, il_ge_21, il_lt_21, il_gt_21, il_eq_21, il_le_40, il_ge_40, il_lt_40, il_gt_40, il_eq_40, il_le_100, il_ge_100, il_lt_100, il_gt_100, il_eq_100, il_le_120, il_ge_120, il_lt_120, il_gt_120, il_eq_120, il_le_200, il_ge_200, il_lt_200, il_gt_200, il_eq_200, il_le_400, il_ge_400, il_lt_400, il_gt_400, il_eq_400, il_le_700, il_ge_700, il_lt_700, il_gt_700, il_eq_700, kb_1, kb_2, ki5, ki11, kg5, kv5_1, kw5_1, k_rs, k_rn, k_r2, k_c2, kg11, kv11_4, kgI5, kgI8, kgI12, kgI16, kwI5, kwI8, kwI12, kwI16, k_as, k_a1, i_in, i_cl, kv5_0, kw5_0, kv5_2, kw5_2, kv11_3, kw11_3, up_s, up_n]
    unfold k_map k_bit at q
    revert q
    generalize k_has (P.1 223 t) (nI j) = th
    intro q
    cases th
    all_goals
      repeat' (first | refine And.intro ?_ ?_ | intro c)
      all_goals first | (simp_all [b_v]; done) | (exact absurd (by assumption) (by decide))
  simp (decide := true) (disch := first | assumption | omega) only [↓u82_0, ↓u82_10, ↓u82_11, ↓u82_24, ↓u82_35, ↓u82_65, ↓u82_81, ↓u82_82, ↓u82_102, ↓u82_103, ↓u82_128, ↓u82_148, ↓x_nil, ↓x_om, ↓x_iload_2, ↓x_if_lt, ↓x_bipush_8, ↓x_icmp_lt, ↓x_return, ↓x_aload_4r, ↓x_aload_4n, ↓x_aload_4q, ↓x_iload_1, ↓x_bipush_12, ↓x_icmp_ne, ↓x_bipush_16, ↓x_goto, ↓x_bipush_13, ↓x_bipush_17, ↓x_bipush_18, ↓x_invokevirtual, mt_11_49, x_ps0, x_ps1, x_l40, x_l41, x_l42, x_l43, x_l44, ↓x_cv1, ↓x_aload_0r, ↓x_aload_0n, ↓x_aload_0q, mt_11_46, ↓x_istore_5, x_cl_i, x_cl_r, x_cl_n, x_cl_q, x_cl_0, x_cl_l, ↓x_iload_5, ↓x_if_ne, ↓x_icmp_eq, ↓x_iconst_1, ↓x_putfield, ft_11_91, x_fit0, x_fit1, x_fit2r, x_fit2n, x_fit2q, ↓x_if_eq, ↓x_getfield, ft_11_9, ↓x_iaload, ↓x_iconst_0, ft_11_55, ft_11_96, ↓x_iload_3, ↓x_iastore, ↓x_dup_i, ↓x_dup_r, ↓x_dup_n, ft_11_29, ↓x_ishl, ↓x_ior, ↓x_iconst_m1, ↓x_ixor, ↓x_iand, Int.reduceAdd, Nat.reduceAdd, true_and, and_true, true_or, or_true, false_or, or_false, reduceCtorEq, false_and, and_false, and_self, or_self, false_implies, true_implies, not_true_eq_false, not_false_eq_true, implies_true, Option.some.injEq, i_add, i_a1, i_m8, i_m5, i_m401, i_40, i_80, i_r40, i_s1, i_am1, i_sub, i_lt, i_le, i_eq, i_m1, il_le_0, il_ge_0, il_lt_0, il_gt_0, il_eq_0, il_le_1, il_ge_1, il_lt_1, il_gt_1, il_eq_1, il_le_2, il_ge_2, il_lt_2, il_gt_2, il_eq_2, il_le_3, il_ge_3, il_lt_3, il_gt_3, il_eq_3, il_le_4, il_ge_4, il_lt_4, il_gt_4, il_eq_4, il_le_5, il_ge_5, il_lt_5, il_gt_5, il_eq_5, il_le_6, il_ge_6, il_lt_6, il_gt_6, il_eq_6, il_le_7, il_ge_7, il_lt_7, il_gt_7, il_eq_7, il_le_8, il_ge_8, il_lt_8, il_gt_8, il_eq_8, il_le_12, il_ge_12, il_lt_12, il_gt_12, il_eq_12, il_le_16, il_ge_16, il_lt_16, il_gt_16, il_eq_16, il_le_20, il_ge_20, il_lt_20, il_gt_20, il_eq_20, il_le_21, il_ge_21, il_lt_21, il_gt_21, il_eq_21, il_le_40, il_ge_40, il_lt_40, il_gt_40, il_eq_40, il_le_100, il_ge_100, il_lt_100, il_gt_100, il_eq_100, il_le_120, il_ge_120, il_lt_120, il_gt_120, il_eq_120, il_le_200, il_ge_200, il_lt_200, il_gt_200, il_eq_200, il_le_400, il_ge_400, il_lt_400, il_gt_400, il_eq_400, il_le_700, il_ge_700, il_lt_700, il_gt_700, il_eq_700, ki5, ki11, kg5, kv5_1, kw5_1, k_rs, k_rn, k_r2, k_c2, kg11, kv11_4, kgI5, kgI8, kgI12, kgI16, kwI5, kwI8, kwI12, kwI16, k_as, k_a1, i_in, i_cl, kv5_0, kw5_0, kv5_2, kw5_2, kv11_3, kw11_3, up_s, up_n]
  refine ⟨fun c => by omega, fun _ => ⟨fun _ => ⟨fun c => ?_, fun c => ⟨fun c2 => ?_, fun c2 => ?_⟩⟩, fun c => by omega⟩⟩
  · rw [k_mb, if_pos c] at fin; exact fin
  · rw [k_mb, if_neg c, if_pos c2] at fin; exact fin
  · rw [k_mb, if_neg c, if_neg c2] at fin; exact fin
theorem k_waa {a : Nat} {f f' : Nat → Int32} : k_wa (k_wa P a f) a f' = k_wa P a f' := by
  unfold k_wa
  refine Prod.ext rfl (funext fun b => ?_)
  by_cases e : b = a
  · subst e; simp only [up_s]
  · simp only [up_n e]
theorem k_wa0 {a : Nat} : k_wa P a (P.2 a) = P := by
  unfold k_wa
  refine Prod.ext rfl (funext fun b => ?_)
  by_cases e : b = a
  · subst e; simp only [up_s]
  · simp only [up_n e]
def k_putF (P : k_P) (t : Nat) (v : Int32) : k_P := k_wr (k_wa P (t + 1) (fun i => if i = 0 then v else if i < 8 then P.2 (t + 1) (i - 1) else P.2 (t + 1) i)) 223 t (P.1 223 t + 1)
theorem h_putFirst (hg : e_GK g) {t : Nat} {v : Int32} (tt : Z.1 t = 12) (tc : Z.1 (t + 1) = 108) (q : Ψ none (K_H Z (k_putF P t v) U h)) : e_Sc g 84 [.ref t, .int v] (K_H Z P U h) Ψ := by
  refine e_call (cd := cd84) hg ok84 (by rw [mL84]; exact Nat.le_of_ble_eq_true rfl) ?_
  rw [mL84]
  simp only [x_ini, x_inr, x_inn, x_inq, x_inl, x_in0, x_rp0, x_rps, Nat.reduceSub]
  have loop : ∀ n, n < 8 → e_Sm g 84 11 cd84 Ψ 3 [some (.ref t), some (.int v), some (.int (nI n))] [] (K_H Z (k_wa P (t + 1) (fun i => if n < i ∧ i < 8 then P.2 (t + 1) (i - 1) else P.2 (t + 1) i)) U h) := by
    intro n
    induction n with
    | zero =>
      intro hn
      rw [u84_3]
      simp (decide := true) (disch := first | assumption | omega) only [↓u84_0, ↓u84_27, ↓x_nil, ↓x_om, ↓x_bipush_7, ↓x_istore_2, x_cl_i, x_cl_r, x_cl_n, x_cl_q, x_cl_0, x_cl_l, ↓x_iload_2, ↓x_if_le, ↓x_aload_0r, ↓x_aload_0n, ↓x_aload_0q, ↓x_getfield, ft_11_9, ↓x_iconst_1, ↓x_isub, ↓x_iaload, ↓x_iastore, ↓x_iinc_2_m1, ↓x_goto, ↓x_iconst_0, ↓x_iload_1, ↓x_dup_i, ↓x_dup_r, ↓x_dup_n, ft_11_29, ↓x_iadd, ↓x_putfield, x_fit0, x_fit1, x_fit2r, x_fit2n, x_fit2q, ↓x_return, Int.reduceAdd, Nat.reduceAdd, true_and, and_true, true_or, or_true, false_or, or_false, reduceCtorEq, false_and, and_false, and_self, or_self, false_implies, true_implies, not_true_eq_false, not_false_eq_true, implies_true, Option.some.injEq, i_add, i_a1, i_m8, i_m5, i_m401, i_40, i_80, i_r40, i_s1, i_am1, i_sub, i_lt, i_le, i_eq, i_m1, il_le_0, il_ge_0, il_lt_0, il_gt_0, il_eq_0, il_le_1, il_ge_1, il_lt_1, il_gt_1, il_eq_1, il_le_2, il_ge_2, il_lt_2, il_gt_2, il_eq_2, il_le_3, il_ge_3, il_lt_3, il_gt_3, il_eq_3, il_le_4, il_ge_4, il_lt_4, il_gt_4, il_eq_4, il_le_5, il_ge_5, il_lt_5, il_gt_5, il_eq_5, il_le_6, il_ge_6, il_lt_6, il_gt_6, il_eq_6, il_le_7, il_ge_7, il_lt_7, il_gt_7, il_eq_7, il_le_8, il_ge_8, il_lt_8, il_gt_8, il_eq_8, il_le_12, il_ge_12, il_lt_12, il_gt_12, il_eq_12, il_le_16, il_ge_16, il_lt_16, il_gt_16, il_eq_16, il_le_20, il_ge_20, il_lt_20, il_gt_20, il_eq_20, il_le_21, il_ge_21, il_lt_21, il_gt_21, il_eq_21, il_le_40, il_ge_40, il_lt_40, il_gt_40, il_eq_40, il_le_100, il_ge_100, il_lt_100, il_gt_100, il_eq_100, il_le_120, il_ge_120, il_lt_120, il_gt_120, il_eq_120, il_le_200, il_ge_200, il_lt_200, il_gt_200, il_eq_200, il_le_400, il_ge_400, il_lt_400, il_gt_400, il_eq_400, il_le_700, il_ge_700, il_lt_700, il_gt_700, il_eq_700, kg11, kv11_4, kgI5, kgI8, kgI12, kgI16, kwI5, kwI8, kwI12, kwI16, k_as, k_a1, k_r2, i_in, i_cl, kv11_3, kw11_3, k_rs, k_rn, k_c2, up_s, up_n]
      refine ⟨by unfold vp_in; decide, k_q q ?_⟩
      rw [k_waa, k_putF]
      congr 2
      funext i
      rw [show Int32.toNatClampNeg 0 = 0 from by decide]
      by_cases e : i = 0
      · subst e; simp [up_s]
      · rw [up_n e, if_neg e]
        by_cases e2 : i < 8
        · rw [if_pos e2, if_pos ⟨by omega, e2⟩]
        · rw [if_neg e2, if_neg (fun z => e2 z.2)]
    | succ n ih =>
      intro hn
      rw [u84_3]
      simp (decide := true) (disch := first | assumption | omega) only [↓u84_0, ↓u84_27, ↓x_nil, ↓x_om, ↓x_bipush_7, ↓x_istore_2, x_cl_i, x_cl_r, x_cl_n, x_cl_q, x_cl_0, x_cl_l, ↓x_iload_2, ↓x_if_le, ↓x_aload_0r, ↓x_aload_0n, ↓x_aload_0q, ↓x_getfield, ft_11_9, ↓x_iconst_1, ↓x_isub, ↓x_iaload, ↓x_iastore, ↓x_iinc_2_m1, ↓x_goto, ↓x_iconst_0, ↓x_iload_1, ↓x_dup_i, ↓x_dup_r, ↓x_dup_n, ft_11_29, ↓x_iadd, ↓x_putfield, x_fit0, x_fit1, x_fit2r, x_fit2n, x_fit2q, ↓x_return, Int.reduceAdd, Nat.reduceAdd, true_and, and_true, true_or, or_true, false_or, or_false, reduceCtorEq, false_and, and_false, and_self, or_self, false_implies, true_implies, not_true_eq_false, not_false_eq_true, implies_true, Option.some.injEq, i_add, i_a1, i_m8, i_m5, i_m401, i_40, i_80, i_r40, i_s1, i_am1, i_sub, i_lt, i_le, i_eq, i_m1, il_le_0, il_ge_0, il_lt_0, il_gt_0, il_eq_0, il_le_1, il_ge_1, il_lt_1, il_gt_1, il_eq_1, il_le_2, il_ge_2, il_lt_2, il_gt_2, il_eq_2, il_le_3, il_ge_3, il_lt_3, il_gt_3, il_eq_3, il_le_4, il_ge_4, il_lt_4, il_gt_4, il_eq_4, il_le_5, il_ge_5, il_lt_5, il_gt_5, il_eq_5, il_le_6, il_ge_6, il_lt_6, il_gt_6, il_eq_6, il_le_7, il_ge_7, il_lt_7, il_gt_7, il_eq_7, il_le_8, il_ge_8, il_lt_8, il_gt_8, il_eq_8, il_le_12, il_ge_12, il_lt_12, il_gt_12, il_eq_12, il_le_16, il_ge_16, il_lt_16, il_gt_16, il_eq_16, il_le_20, il_ge_20, il_lt_20, il_gt_20, il_eq_20, il_le_21, il_ge_21, il_lt_21, il_gt_21, il_eq_21, il_le_40, il_ge_40, il_lt_40, il_gt_40, il_eq_40, il_le_100, il_ge_100, il_lt_100, il_gt_100, il_eq_100, il_le_120, il_ge_120, il_lt_120, il_gt_120, il_eq_120, il_le_200, il_ge_200, il_lt_200, il_gt_200, il_eq_200, il_le_400, il_ge_400, il_lt_400, il_gt_400, il_eq_400, il_le_700, il_ge_700, il_lt_700, il_gt_700, il_eq_700, kg11, kv11_4, kgI5, kgI8, kgI12, kgI16, kwI5, kwI8, kwI12, kwI16, k_as, k_a1, k_r2, i_in, i_cl, kv11_3, kw11_3, k_rs, k_rn, k_c2, up_s, up_n]
      refine ⟨fun c => by omega, fun _ => ?_⟩
      have := ih (by omega)
      rw [k_waa, Nat.add_sub_cancel]
      refine (congrArg (fun x => e_Sm g 84 11 cd84 Ψ 3 [some (.ref t), some (.int v), some (.int (nI n))] [] (K_H Z (k_wa P (t + 1) x) U h)) (funext fun i => ?_)).mp this
      by_cases e : i = n + 1
      · subst e
        rw [up_s, if_pos (c := n < n + 1 ∧ n + 1 < 8) (by omega), if_neg (by omega), Nat.add_sub_cancel]
      · rw [up_n e]
        by_cases e2 : n + 1 < i ∧ i < 8
        · rw [if_pos e2, if_pos (by omega)]
        · rw [if_neg e2, if_neg (by omega)]
  simp (decide := true) (disch := first | assumption | omega) only [↓u84_0, ↓u84_27, ↓x_nil, ↓x_om, ↓x_bipush_7, ↓x_istore_2, x_cl_i, x_cl_r, x_cl_n, x_cl_q, x_cl_0, x_cl_l, ↓x_iload_2, ↓x_if_le, ↓x_aload_0r, ↓x_aload_0n, ↓x_aload_0q, ↓x_getfield, ft_11_9, ↓x_iconst_1, ↓x_isub, ↓x_iaload, ↓x_iastore, ↓x_iinc_2_m1, ↓x_goto, ↓x_iconst_0, ↓x_iload_1, ↓x_dup_i, ↓x_dup_r, ↓x_dup_n, ft_11_29, ↓x_iadd, ↓x_putfield, x_fit0, x_fit1, x_fit2r, x_fit2n, x_fit2q, ↓x_return, Int.reduceAdd, Nat.reduceAdd, true_and, and_true, true_or, or_true, false_or, or_false, reduceCtorEq, false_and, and_false, and_self, or_self, false_implies, true_implies, not_true_eq_false, not_false_eq_true, implies_true, Option.some.injEq, i_add, i_a1, i_m8, i_m5, i_m401, i_40, i_80, i_r40, i_s1, i_am1, i_sub, i_lt, i_le, i_eq, i_m1, il_le_0, il_ge_0, il_lt_0, il_gt_0, il_eq_0, il_le_1, il_ge_1, il_lt_1, il_gt_1, il_eq_1, il_le_2, il_ge_2, il_lt_2, il_gt_2, il_eq_2, il_le_3, il_ge_3, il_lt_3, il_gt_3, il_eq_3, il_le_4, il_ge_4, il_lt_4, il_gt_4, il_eq_4, il_le_5, il_ge_5, il_lt_5, il_gt_5, il_eq_5, il_le_6, il_ge_6, il_lt_6, il_gt_6, il_eq_6, il_le_7, il_ge_7, il_lt_7, il_gt_7, il_eq_7, il_le_8, il_ge_8, il_lt_8, il_gt_8, il_eq_8, il_le_12, il_ge_12, il_lt_12, il_gt_12, il_eq_12, il_le_16, il_ge_16, il_lt_16, il_gt_16, il_eq_16, il_le_20, il_ge_20, il_lt_20, il_gt_20, il_eq_20, il_le_21, il_ge_21, il_lt_21, il_gt_21, il_eq_21, il_le_40, il_ge_40, il_lt_40, il_gt_40, il_eq_40, il_le_100, il_ge_100, il_lt_100, il_gt_100, il_eq_100, il_le_120, il_ge_120, il_lt_120, il_gt_120, il_eq_120, il_le_200, il_ge_200, il_lt_200, il_gt_200, il_eq_200, il_le_400, il_ge_400, il_lt_400, il_gt_400, il_eq_400, il_le_700, il_ge_700, il_lt_700, il_gt_700, il_eq_700, kg11, kv11_4, kgI5, kgI8, kgI12, kgI16, kwI5, kwI8, kwI12, kwI16, k_as, k_a1, k_r2, i_in, i_cl, kv11_3, kw11_3, k_rs, k_rn, k_c2, up_s, up_n]
  have l7 := loop 7 (by omega)
  have e7 : (fun i => if 7 < i ∧ i < 8 then P.2 (t + 1) (i - 1) else P.2 (t + 1) i) = P.2 (t + 1) := funext fun i => if_neg (by omega)
  rw [e7, k_wa0] at l7
  exact l7
def k_putB (P : k_P) (t j : Nat) (v : Int32) (w : Bool) : k_P :=
  if w = true then k_wr (k_wa P (t + 1) (va_up (P.2 (t + 1)) j v)) 223 t (P.1 223 t ||| k_bit j) else k_wr P 223 t (P.1 223 t &&& (k_bit j ^^^ (-1)))
theorem h_putBack (hg : e_GK g) {t j : Nat} {v : Int32} {w : Bool} (hj : j < 8) (tt : Z.1 t = 12) (tc : Z.1 (t + 1) = 108) (q : Ψ none (K_H Z (k_putB P t j v w) U h)) : e_Sc g 85 [.ref t, .int (nI j), .int v, .int (b_v w)] (K_H Z P U h) Ψ := by
  refine e_call (cd := cd85) hg ok85 (by rw [mL85]; exact Nat.le_of_ble_eq_true rfl) ?_
  rw [mL85]
  simp only [x_ini, x_inr, x_inn, x_inq, x_inl, x_in0, x_rp0, x_rps, Nat.reduceSub]
  simp (decide := true) (disch := first | assumption | omega) only [↓u85_0, ↓u85_10, ↓u85_11, ↓u85_37, ↓u85_51, ↓x_nil, ↓x_om, ↓x_iload_1, ↓x_if_lt, ↓x_bipush_8, ↓x_icmp_lt, ↓x_return, ↓x_iload_3, ↓x_if_eq, ↓x_aload_0r, ↓x_aload_0n, ↓x_aload_0q, ↓x_getfield, ft_11_9, ↓x_iload_2, ↓x_iastore, ↓x_dup_i, ↓x_dup_r, ↓x_dup_n, ft_11_29, ↓x_iconst_1, ↓x_ishl, ↓x_ior, ↓x_putfield, x_fit0, x_fit1, x_fit2r, x_fit2n, x_fit2q, ↓x_goto, ↓x_iconst_m1, ↓x_ixor, ↓x_iand, Int.reduceAdd, Nat.reduceAdd, true_and, and_true, true_or, or_true, false_or, or_false, reduceCtorEq, false_and, and_false, and_self, or_self, false_implies, true_implies, not_true_eq_false, not_false_eq_true, implies_true, Option.some.injEq, i_add, i_a1, i_m8, i_m5, i_m401, i_40, i_80, i_r40, i_s1, i_am1, i_sub, i_lt, i_le, i_eq, i_m1, il_le_0, il_ge_0, il_lt_0, il_gt_0, il_eq_0, il_le_1, il_ge_1, il_lt_1, il_gt_1, il_eq_1, il_le_2, il_ge_2, il_lt_2, il_gt_2, il_eq_2, il_le_3, il_ge_3, il_lt_3, il_gt_3, il_eq_3, il_le_4, il_ge_4, il_lt_4, il_gt_4, il_eq_4, il_le_5, il_ge_5, il_lt_5, il_gt_5, il_eq_5, il_le_6, il_ge_6, il_lt_6, il_gt_6, il_eq_6, il_le_7, il_ge_7, il_lt_7, il_gt_7, il_eq_7, il_le_8, il_ge_8, il_lt_8, il_gt_8, il_eq_8, il_le_12, il_ge_12, il_lt_12, il_gt_12, il_eq_12, il_le_16, il_ge_16, il_lt_16, il_gt_16, il_eq_16, il_le_20, il_ge_20, il_lt_20, il_gt_20, il_eq_20, il_le_21, il_ge_21, il_lt_21, il_gt_21, il_eq_21, il_le_40, il_ge_40, il_lt_40, il_gt_40, il_eq_40, il_le_100, il_ge_100, il_lt_100, il_gt_100, il_eq_100, il_le_120, il_ge_120, il_lt_120, il_gt_120, il_eq_120, il_le_200, il_ge_200, il_lt_200, il_gt_200, il_eq_200, il_le_400, il_ge_400, il_lt_400, il_gt_400, il_eq_400, il_le_700, il_ge_700, il_lt_700, il_gt_700, il_eq_700, kg11, kv11_4, kgI5, kgI8, kgI12, kgI16, kwI5, kwI8, kwI12, kwI16, k_as, k_a1, k_r2, i_in, i_cl, kv11_3, kw11_3, k_rs, k_rn, k_c2, up_s, up_n]
  refine ⟨fun c => by omega, fun c => ⟨fun _ => ?_, fun c => by omega⟩⟩
  exact c_bool (fun c2 => k_q q (by rw [k_putB, if_pos c2]; rfl)) (fun c2 => k_q q (by rw [k_putB, if_neg (by simp [c2])]; rfl))
def k_rev (P : k_P) (t : Nat) (k a ans sv : Int32) : k_P :=
  let v := P.1 223 t
  if k = 1 ∨ k = 15 then k_wr P 223 t (v - a)
  else if k = 16 then k_wr P 223 t (v + a)
  else if k = 2 then k_wr P 223 t sv
  else if k = 3 ∨ k = 17 then k_wr P 223 t ans
  else if k = 4 then k_wr P 223 t (if ans = 1 then v &&& (((1 : Int32) <<< (a &&& 31)) ^^^ (-1)) else v)
  else if k = 5 then k_wr P 223 t (if ans = 1 then v ||| ((1 : Int32) <<< (a &&& 31)) else v)
  else if k = 8 then k_wr P 223 t (if 0 < v - 1 then v - 1 else 0)
  else if k = 9 then k_putF P t ans
  else if k = 12 ∨ k = 13 then k_putB P t a.toNatClampNeg ans (k == 13 || sv == 1)
  else P
theorem h_revert (hg : e_GK g) {t : Nat} {k a ans sv : Int32} (hj : k = 12 ∨ k = 13 → ∃ j, j < 8 ∧ a = nI j) (tt : Z.1 t = 12) (tc : Z.1 (t + 1) = 108) (q : Ψ none (K_H Z (k_rev P t k a ans sv) U h)) : e_Sc g 83 [.ref t, .int k, .int a, .int ans, .int sv] (K_H Z P U h) Ψ := by
  refine e_call (cd := cd83) hg ok83 (by rw [mL83]; exact Nat.le_of_ble_eq_true rfl) ?_
  rw [mL83]
  simp only [x_ini, x_inr, x_inn, x_inq, x_inl, x_in0, x_rp0, x_rps, Nat.reduceSub]
  simp (decide := true) (disch := first | assumption | omega) only [↓u83_0, ↓u83_84, ↓u83_97, ↓u83_110, ↓u83_119, ↓u83_127, ↓u83_146, ↓u83_150, ↓u83_156, ↓u83_173, ↓u83_177, ↓u83_183, ↓u83_200, ↓u83_208, ↓u83_223, ↓u83_227, ↓u83_228, ↓u83_234, ↓x_nil, ↓x_om, ↓x_iload_1, ↓x_tsw, ↓x_sw0, ↓x_swc, x_ti1, x_ti2, x_ti3, x_ti4, x_ti5, x_ti6, x_ti7, x_ti8, x_ti9, x_ti10, x_ti11, x_ti12, x_ti13, x_ti14, x_ti15, x_ti16, x_ti17, x_tl1, x_tg17, ↓x_aload_0r, ↓x_aload_0n, ↓x_aload_0q, ↓x_dup_i, ↓x_dup_r, ↓x_dup_n, ↓x_getfield, ft_11_29, ↓x_iload_2, ↓x_isub, ↓x_putfield, x_fit0, x_fit1, x_fit2r, x_fit2n, x_fit2q, ↓x_goto, ↓x_iadd, ↓x_iload_4, ↓x_iload_3, ↓x_iconst_1, ↓x_icmp_ne, ↓x_ishl, ↓x_iconst_m1, ↓x_ixor, ↓x_iand, ↓x_ior, ↓x_iconst_0, ↓x_invokestatic, mt_11_102, x_ps0, x_ps1, x_l40, x_l41, x_l42, x_l43, x_l44, ↓x_cmax, ↓x_invokevirtual, mt_11_108, ↓x_cv1, ↓x_bipush_13, ↓x_icmp_eq, mt_11_111, ↓x_cv3, ↓x_return, Int.reduceAdd, Nat.reduceAdd, true_and, and_true, true_or, or_true, false_or, or_false, reduceCtorEq, false_and, and_false, and_self, or_self, false_implies, true_implies, not_true_eq_false, not_false_eq_true, implies_true, Option.some.injEq, kg11, kv11_3, kw11_3, k_rs, k_rn, k_r2, k_c2, ki11, up_s, up_n]
  have e : (k < 1 ∨ 17 < k) → ∀ m : Nat, 1 ≤ m → m ≤ 17 → ¬ k = nI m := fun c m h1 h2 z => by
    subst z
    rw [show (1 : Int32) = nI 1 from by decide, show (17 : Int32) = nI 17 from by decide, i_lt (by omega) (by omega), i_lt (by omega) (by omega)] at c
    omega
  have pb : ∀ b : Bool, k_rev P t k a ans sv = k_putB P t a.toNatClampNeg ans b → (k = 12 ∨ k = 13) → (∀ Ω : e_Q, Ω none = Ψ none → e_Sc g 85 [.ref t, .int a, .int ans, .int (b_v b)] (K_H Z P U h) Ω) := fun b e hk Ω eo => by
    obtain ⟨j, hj2, rfl⟩ := hj hk
    refine h_putBack hg hj2 tt tc ?_
    rw [eo]
    rw [i_cl (by omega)] at e
    exact k_q q e
  refine ⟨fun c => k_q q ?_, fun c => k_q q ?_, fun c => k_q q ?_, fun c => k_q q ?_, fun c => ⟨fun c2 => k_q q ?_, fun c2 => k_q q ?_⟩, fun c => ⟨fun c2 => k_q q ?_, fun c2 => k_q q ?_⟩, fun c => k_q q ?_, fun c => k_q q ?_, fun c => k_q q ?_, fun c => h_putFirst hg tt tc ?_, fun c => k_q q ?_, fun c => k_q q ?_,
    fun c => ⟨fun c2 => absurd (c.symm.trans c2) (by decide), fun c2 => ⟨fun c3 => pb true ?_ (Or.inl c) _ ?_, fun c3 => pb false ?_ (Or.inl c) _ ?_⟩⟩, fun c => ⟨fun c2 => pb true ?_ (Or.inr c) _ ?_, fun c2 => absurd c c2⟩, fun c => k_q q ?_, fun c => k_q q ?_, fun c => k_q q ?_, fun c => k_q q ?_⟩
  · have e := e c
    unfold k_rev
    have e1 : ¬ k = 1 := e 1 (by omega) (by omega)
    have e2 : ¬ k = 2 := e 2 (by omega) (by omega)
    have e3 : ¬ k = 3 := e 3 (by omega) (by omega)
    have e4 : ¬ k = 4 := e 4 (by omega) (by omega)
    have e5 : ¬ k = 5 := e 5 (by omega) (by omega)
    have e8 : ¬ k = 8 := e 8 (by omega) (by omega)
    have e9 : ¬ k = 9 := e 9 (by omega) (by omega)
    have e12 : ¬ k = 12 := e 12 (by omega) (by omega)
    have e13 : ¬ k = 13 := e 13 (by omega) (by omega)
    have e15 : ¬ k = 15 := e 15 (by omega) (by omega)
    have e16 : ¬ k = 16 := e 16 (by omega) (by omega)
    have e17 : ¬ k = 17 := e 17 (by omega) (by omega)
    simp only [e1, e2, e3, e4, e5, e8, e9, e12, e13, e15, e16, e17, or_self, if_false]
  all_goals try (subst c; simp (decide := true) only [k_rev, if_true, if_false, *]; done)
  · subst c
    simp (decide := true) (disch := first | assumption | omega) only [↓u83_0, ↓u83_84, ↓u83_97, ↓u83_110, ↓u83_119, ↓u83_127, ↓u83_146, ↓u83_150, ↓u83_156, ↓u83_173, ↓u83_177, ↓u83_183, ↓u83_200, ↓u83_208, ↓u83_223, ↓u83_227, ↓u83_228, ↓u83_234, ↓x_nil, ↓x_om, ↓x_iload_1, ↓x_tsw, ↓x_sw0, ↓x_swc, x_ti1, x_ti2, x_ti3, x_ti4, x_ti5, x_ti6, x_ti7, x_ti8, x_ti9, x_ti10, x_ti11, x_ti12, x_ti13, x_ti14, x_ti15, x_ti16, x_ti17, x_tl1, x_tg17, ↓x_aload_0r, ↓x_aload_0n, ↓x_aload_0q, ↓x_dup_i, ↓x_dup_r, ↓x_dup_n, ↓x_getfield, ft_11_29, ↓x_iload_2, ↓x_isub, ↓x_putfield, x_fit0, x_fit1, x_fit2r, x_fit2n, x_fit2q, ↓x_goto, ↓x_iadd, ↓x_iload_4, ↓x_iload_3, ↓x_iconst_1, ↓x_icmp_ne, ↓x_ishl, ↓x_iconst_m1, ↓x_ixor, ↓x_iand, ↓x_ior, ↓x_iconst_0, ↓x_invokestatic, mt_11_102, x_ps0, x_ps1, x_l40, x_l41, x_l42, x_l43, x_l44, ↓x_cmax, ↓x_invokevirtual, mt_11_108, ↓x_cv1, ↓x_bipush_13, ↓x_icmp_eq, mt_11_111, ↓x_cv3, ↓x_return, Int.reduceAdd, Nat.reduceAdd, true_and, and_true, true_or, or_true, false_or, or_false, reduceCtorEq, false_and, and_false, and_self, or_self, false_implies, true_implies, not_true_eq_false, not_false_eq_true, implies_true, Option.some.injEq, kg11, kv11_3, kw11_3, k_rs, k_rn, k_r2, k_c2, ki11, up_s, up_n]
    refine k_q q ?_
    simp (decide := true) only [k_rev, if_true, if_false]
  all_goals first
    | (funext h'; simp (decide := true) (disch := first | assumption | omega) only [↓u83_0, ↓u83_84, ↓u83_97, ↓u83_110, ↓u83_119, ↓u83_127, ↓u83_146, ↓u83_150, ↓u83_156, ↓u83_173, ↓u83_177, ↓u83_183, ↓u83_200, ↓u83_208, ↓u83_223, ↓u83_227, ↓u83_228, ↓u83_234, ↓x_nil, ↓x_om, ↓x_iload_1, ↓x_tsw, ↓x_sw0, ↓x_swc, x_ti1, x_ti2, x_ti3, x_ti4, x_ti5, x_ti6, x_ti7, x_ti8, x_ti9, x_ti10, x_ti11, x_ti12, x_ti13, x_ti14, x_ti15, x_ti16, x_ti17, x_tl1, x_tg17, ↓x_aload_0r, ↓x_aload_0n, ↓x_aload_0q, ↓x_dup_i, ↓x_dup_r, ↓x_dup_n, ↓x_getfield, ft_11_29, ↓x_iload_2, ↓x_isub, ↓x_putfield, x_fit0, x_fit1, x_fit2r, x_fit2n, x_fit2q, ↓x_goto, ↓x_iadd, ↓x_iload_4, ↓x_iload_3, ↓x_iconst_1, ↓x_icmp_ne, ↓x_ishl, ↓x_iconst_m1, ↓x_ixor, ↓x_iand, ↓x_ior, ↓x_iconst_0, ↓x_invokestatic, mt_11_102, x_ps0, x_ps1, x_l40, x_l41, x_l42, x_l43, x_l44, ↓x_cmax, ↓x_invokevirtual, mt_11_108, ↓x_cv1, ↓x_bipush_13, ↓x_icmp_eq, mt_11_111, ↓x_cv3, ↓x_return, Int.reduceAdd, Nat.reduceAdd, true_and, and_true, true_or, or_true, false_or, or_false, reduceCtorEq, false_and, and_false, and_self, or_self, false_implies, true_implies, not_true_eq_false, not_false_eq_true, implies_true, Option.some.injEq, kg11, kv11_3, kw11_3, k_rs, k_rn, k_r2, k_c2, ki11, up_s, up_n]; done)
    | (subst c; simp (decide := true) [k_rev, c3]; done)
    | (subst c; simp (decide := true) [k_rev, beq_false_of_ne c3]; done)
    | (subst c; simp (decide := true) [k_rev]; done)
end KF
