/-! the reference: things of the objects -/
abbrev m_S : Type := (Nat → Int32) × (Nat → Nat → Int32)
def y_sort (F : Nat → Int32) (A : Nat → Nat → Int32) (j : Nat) : Int32 := if j = 120 then F 8 else A 4 (j % 40)
theorem i_120 {j : Nat} (h : j ≤ 2000000000) : (nI j = 120) = (j = 120) := i_eq (b := 120) h (by decide)
section MB
variable {g : e_G} {Ψ : e_Q} {h : e_Hp} {M : Nat} {F : Nat → Int32} {A : Nat → Nat → Int32}
theorem c_sortAt (hg : e_GK g) {j : Nat} (hj : j < 128) (q : Ψ (some (.int (y_sort F A j))) (m_H M F A h)) : e_Sc g 154 [.ref M, .int (nI j)] (m_H M F A h) Ψ := by
  refine e_call (cd := cd154) hg ok154 (by rw [mL154]; exact Nat.le_of_ble_eq_true rfl) ?_
  rw [mL154]
  simp only [x_ini, x_inr, x_inn, x_inq, x_inl, x_in0, x_rp0, x_rps, Nat.reduceSub]
  have hm : j % 40 < 40 := Nat.mod_lt _ (by decide)
  simp (decide := true) (disch := omega) only [↓u154_0, ↓u154_13, ↓u154_22, ↓x_nil, ↓x_om, ↓x_iload_1, ↓x_bipush_120, ↓x_icmp_ne, ↓x_aload_0r, ↓x_aload_0n, ↓x_aload_0q, ↓x_getfield, ft_13_231, ↓x_goto, ft_13_7, ↓x_bipush_40, ↓x_irem, ↓x_iaload, ↓x_ireturn, rt154, Int.reduceAdd, Nat.reduceAdd, true_and, and_true, true_or, or_true, false_or, or_false, reduceCtorEq, false_and, and_false, and_self, or_self, false_implies, true_implies, not_true_eq_false, not_false_eq_true, implies_true, Option.some.injEq, i_120, i_r40, mv4, mr4, mw4, mv8, mw8, m_gO, m_isC, up_s, up_n, i_in, i_cl]
  refine ⟨fun c => b_q q (by simp [y_sort, c]), fun c => b_q q (by simp [y_sort, c])⟩
theorem c_asMade (hg : e_GK g) {j : Nat} {v : Int32} (hj : j < 128) (q : Ψ none (m_H M F (va_up (va_up (va_up A 9 (va_up (A 9) j v)) 10 (va_up (A 10) j 0)) 11 (va_up (A 11) j 0)) h)) : e_Sc g 156 [.ref M, .int (nI j), .int v] (m_H M F A h) Ψ := by
  refine e_call (cd := cd156) hg ok156 (by rw [mL156]; exact Nat.le_of_ble_eq_true rfl) ?_
  rw [mL156]
  simp only [x_ini, x_inr, x_inn, x_inq, x_inl, x_in0, x_rp0, x_rps, Nat.reduceSub]
  simp (decide := true) (disch := omega) only [↓u156_0, ↓x_nil, ↓x_om, ↓x_aload_0r, ↓x_aload_0n, ↓x_aload_0q, ↓x_getfield, ft_13_22, ↓x_iload_1, ↓x_iload_2, ↓x_iastore, ft_13_25, ↓x_iconst_0, ft_13_28, ↓x_return, Int.reduceAdd, Nat.reduceAdd, true_and, and_true, true_or, or_true, false_or, or_false, reduceCtorEq, false_and, and_false, and_self, or_self, false_implies, true_implies, not_true_eq_false, not_false_eq_true, implies_true, Option.some.injEq, mv9, mr9, mw9, mv10, mr10, mw10, mv11, mr11, mw11, m_gO, m_isC, up_s, up_n, i_in, i_cl]
  exact q
theorem c_isObject (hg : e_GK g) {o : Int32} (q : Ψ (some (.int (b_v (y_isIn o 0 (F 3 - 1))))) (m_H M F A h)) : e_Sc g 155 [.ref M, .int o] (m_H M F A h) Ψ := by
  refine e_call (cd := cd155) hg ok155 (by rw [mL155]; exact Nat.le_of_ble_eq_true rfl) ?_
  rw [mL155]
  simp only [x_ini, x_inr, x_inn, x_inq, x_inl, x_in0, x_rp0, x_rps, Nat.reduceSub]
  simp (decide := true) (disch := omega) only [↓u155_0, ↓x_nil, ↓x_om, ↓x_iload_1, ↓x_iconst_0, ↓x_aload_0r, ↓x_aload_0n, ↓x_aload_0q, ↓x_getfield, ft_13_234, ↓x_iconst_1, ↓x_isub, ↓x_invokestatic, mt_13_237, x_ps0, x_ps1, x_l40, x_l41, x_l42, x_l43, x_l44, ↓x_cs3_1, ↓x_ireturn, rt155, Int.reduceAdd, Nat.reduceAdd, true_and, and_true, true_or, or_true, false_or, or_false, reduceCtorEq, false_and, and_false, and_self, or_self, false_implies, true_implies, not_true_eq_false, not_false_eq_true, implies_true, Option.some.injEq, mv3, mw3, m_gO, m_isC, up_s, up_n, i_in, i_cl]
  refine c_isIn hg ?_
  simp (decide := true) (disch := omega) only [↓u155_0, ↓x_nil, ↓x_om, ↓x_iload_1, ↓x_iconst_0, ↓x_aload_0r, ↓x_aload_0n, ↓x_aload_0q, ↓x_getfield, ft_13_234, ↓x_iconst_1, ↓x_isub, ↓x_invokestatic, mt_13_237, x_ps0, x_ps1, x_l40, x_l41, x_l42, x_l43, x_l44, ↓x_cs3_1, ↓x_ireturn, rt155, Int.reduceAdd, Nat.reduceAdd, true_and, and_true, true_or, or_true, false_or, or_false, reduceCtorEq, false_and, and_false, and_self, or_self, false_implies, true_implies, not_true_eq_false, not_false_eq_true, implies_true, Option.some.injEq, b_vc, mv3, mw3, m_gO, m_isC, up_s, up_n, i_in, i_cl]
  exact q
theorem c_isOne (hg : e_GK g) {t : Int32} (q : Ψ (some (.int (b_v (y_isIn t 1 (F 44))))) (m_H M F A h)) : e_Sc g 183 [.ref M, .int t] (m_H M F A h) Ψ := by
  refine e_call (cd := cd183) hg ok183 (by rw [mL183]; exact Nat.le_of_ble_eq_true rfl) ?_
  rw [mL183]
  simp only [x_ini, x_inr, x_inn, x_inq, x_inl, x_in0, x_rp0, x_rps, Nat.reduceSub]
  simp (decide := true) (disch := omega) only [↓u183_0, ↓x_nil, ↓x_om, ↓x_iload_1, ↓x_iconst_1, ↓x_aload_0r, ↓x_aload_0n, ↓x_aload_0q, ↓x_getfield, ft_13_342, ↓x_invokestatic, mt_13_237, x_ps0, x_ps1, x_l40, x_l41, x_l42, x_l43, x_l44, ↓x_cs3_1, ↓x_ireturn, rt183, Int.reduceAdd, Nat.reduceAdd, true_and, and_true, true_or, or_true, false_or, or_false, reduceCtorEq, false_and, and_false, and_self, or_self, false_implies, true_implies, not_true_eq_false, not_false_eq_true, implies_true, Option.some.injEq, mv44, mw44, m_gO, m_isC, up_s, up_n, i_in, i_cl]
  refine c_isIn hg ?_
  simp (decide := true) (disch := omega) only [↓u183_0, ↓x_nil, ↓x_om, ↓x_iload_1, ↓x_iconst_1, ↓x_aload_0r, ↓x_aload_0n, ↓x_aload_0q, ↓x_getfield, ft_13_342, ↓x_invokestatic, mt_13_237, x_ps0, x_ps1, x_l40, x_l41, x_l42, x_l43, x_l44, ↓x_cs3_1, ↓x_ireturn, rt183, Int.reduceAdd, Nat.reduceAdd, true_and, and_true, true_or, or_true, false_or, or_false, reduceCtorEq, false_and, and_false, and_self, or_self, false_implies, true_implies, not_true_eq_false, not_false_eq_true, implies_true, Option.some.injEq, b_vc, mv44, mw44, m_gO, m_isC, up_s, up_n, i_in, i_cl]
  exact q
theorem c_forceAll (hg : e_GK g) (q : Ψ none (m_H M (va_up (va_up F 14 (F 13)) 15 0) A h)) : e_Sc g 165 [.ref M] (m_H M F A h) Ψ := by
  refine e_call (cd := cd165) hg ok165 (by rw [mL165]; exact Nat.le_of_ble_eq_true rfl) ?_
  rw [mL165]
  simp only [x_ini, x_inr, x_inn, x_inq, x_inl, x_in0, x_rp0, x_rps, Nat.reduceSub]
  simp (decide := true) (disch := omega) only [↓u165_0, ↓x_nil, ↓x_om, ↓x_aload_0r, ↓x_aload_0n, ↓x_aload_0q, ↓x_getfield, ft_13_267, ↓x_putfield, ft_13_270, x_fit0, x_fit1, x_fit2r, x_fit2n, x_fit2q, ↓x_iconst_0, ft_13_273, ↓x_return, Int.reduceAdd, Nat.reduceAdd, true_and, and_true, true_or, or_true, false_or, or_false, reduceCtorEq, false_and, and_false, and_self, or_self, false_implies, true_implies, not_true_eq_false, not_false_eq_true, implies_true, Option.some.injEq, mv13, mw13, mv14, mw14, mv15, mw15, m_gO, m_isC, up_s, up_n, i_in, i_cl]
  exact q
def y_put (w t o k a b c u : Int32) (S : m_S) : m_S := (va_up S.1 13 (S.1 13 + 1),
  va_up (va_up (va_up (va_up (va_up (va_up (va_up (va_up S.2 17 (va_up (S.2 17) (S.1 13).toNatClampNeg w)) 18 (va_up (S.2 18) (S.1 13).toNatClampNeg t)) 19 (va_up (S.2 19) (S.1 13).toNatClampNeg o)) 20 (va_up (S.2 20) (S.1 13).toNatClampNeg k)) 21 (va_up (S.2 21) (S.1 13).toNatClampNeg a)) 22 (va_up (S.2 22) (S.1 13).toNatClampNeg b)) 23 (va_up (S.2 23) (S.1 13).toNatClampNeg c)) 24 (va_up (S.2 24) (S.1 13).toNatClampNeg u))
theorem c_put (hg : e_GK g) {w t o k a b c u : Int32} (hr : vp_in (F 13) 6000) (q : Ψ none (m_H M (y_put w t o k a b c u (F, A)).1 (y_put w t o k a b c u (F, A)).2 h)) : e_Sc g 163 [.ref M, .int w, .int t, .int o, .int k, .int a, .int b, .int c, .int u] (m_H M F A h) Ψ := by
  refine e_call (cd := cd163) hg ok163 (by rw [mL163]; exact Nat.le_of_ble_eq_true rfl) ?_
  rw [mL163]
  simp only [x_ini, x_inr, x_inn, x_inq, x_inl, x_in0, x_rp0, x_rps, Nat.reduceSub]
  simp (decide := true) (disch := omega) only [↓u163_0, ↓x_nil, ↓x_om, ↓x_aload_0r, ↓x_aload_0n, ↓x_aload_0q, ↓x_getfield, ft_13_34, ft_13_267, ↓x_iload_1, ↓x_iastore, ft_13_37, ↓x_iload_2, ft_13_40, ↓x_iload_3, ft_13_43, ↓x_iload_4, ft_13_46, ↓x_iload_5, ft_13_49, ↓x_iload_6, ft_13_52, ↓x_iload_7, ft_13_55, ↓x_iload_8, ↓x_dup_i, ↓x_dup_r, ↓x_dup_n, ↓x_iconst_1, ↓x_iadd, ↓x_putfield, x_fit0, x_fit1, x_fit2r, x_fit2n, x_fit2q, ↓x_return, Int.reduceAdd, Nat.reduceAdd, true_and, and_true, true_or, or_true, false_or, or_false, reduceCtorEq, false_and, and_false, and_self, or_self, false_implies, true_implies, not_true_eq_false, not_false_eq_true, implies_true, Option.some.injEq, hr, mv13, mw13, mv17, mr17, mw17, mv18, mr18, mw18, mv19, mr19, mw19, mv20, mr20, mw20, mv21, mr21, mw21, mv22, mr22, mw22, mv23, mr23, mw23, mv24, mr24, mw24, m_gO, m_isC, up_s, up_n, i_in, i_cl]
  exact q
def y_body (n : Int32) (S : m_S) : m_S := if S.1 29 = 0 then S else if S.1 30 < 16 then (va_up S.1 30 (S.1 30 + 1), va_up S.2 31 (va_up (S.2 31) (S.1 30).toNatClampNeg n)) else S
theorem c_body (hg : e_GK g) {n : Int32} (ht : 0 ≤ F 30) (q : Ψ none (m_H M (y_body n (F, A)).1 (y_body n (F, A)).2 h)) : e_Sc g 168 [.ref M, .int n] (m_H M F A h) Ψ := by
  refine e_call (cd := cd168) hg ok168 (by rw [mL168]; exact Nat.le_of_ble_eq_true rfl) ?_
  rw [mL168]
  simp only [x_ini, x_inr, x_inn, x_inq, x_inl, x_in0, x_rp0, x_rps, Nat.reduceSub]
  simp (decide := true) (disch := omega) only [↓u168_0, ↓u168_36, ↓x_nil, ↓x_om, ↓x_aload_0r, ↓x_aload_0n, ↓x_aload_0q, ↓x_getfield, ft_13_282, ↓x_if_eq, ft_13_286, ↓x_bipush_16, ↓x_icmp_ge, ft_13_58, ↓x_iload_1, ↓x_iastore, ↓x_dup_i, ↓x_dup_r, ↓x_dup_n, ↓x_iconst_1, ↓x_iadd, ↓x_putfield, x_fit0, x_fit1, x_fit2r, x_fit2n, x_fit2q, ↓x_return, Int.reduceAdd, Nat.reduceAdd, true_and, and_true, true_or, or_true, false_or, or_false, reduceCtorEq, false_and, and_false, and_self, or_self, false_implies, true_implies, not_true_eq_false, not_false_eq_true, implies_true, Option.some.injEq, mv29, mw29, mv30, mw30, mv31, mr31, mw31, m_gO, m_isC, up_s, up_n, i_in, i_cl]
  trace_state
  sorry
end MB
