/-! the reference: things of the objects -/
abbrev m_S : Type := (Nat → Int32) × (Nat → Nat → Int32)
def y_sort (F : Nat → Int32) (A : Nat → Nat → Int32) (j : Nat) : Int32 := if j = 120 then F 8 else A 4 (j % 40)
section MB
variable {g : e_G} {Ψ : e_Q} {h : e_Hp} {M : Nat} {F : Nat → Int32} {A : Nat → Nat → Int32}
theorem c_sortAt (hg : e_GK g) {j : Nat} (hj : j < 128) (q : Ψ (some (.int (y_sort F A j))) (m_H M F A h)) : e_Sc g 154 [.ref M, .int (nI j)] (m_H M F A h) Ψ := by
  refine e_call (cd := cd154) hg ok154 (by rw [mL154]; exact Nat.le_of_ble_eq_true rfl) ?_
  rw [mL154]
  simp only [x_ini, x_inr, x_inn, x_inq, x_inl, x_in0, x_rp0, x_rps, Nat.reduceSub]
  have hm : j % 40 < 40 := Nat.mod_lt _ (by decide)
  simp (decide := true) (disch := omega) only [↓u154_0, ↓u154_13, ↓u154_22, ↓x_nil, ↓x_om, ↓x_iload_1, ↓x_bipush_120, ↓x_icmp_ne, ↓x_aload_0r, ↓x_aload_0n, ↓x_aload_0q, ↓x_getfield, ft_13_231, ↓x_goto, ft_13_7, ↓x_bipush_40, ↓x_irem, ↓x_iaload, ↓x_ireturn, rt154, Int.reduceAdd, Nat.reduceAdd, true_and, and_true, true_or, or_true, false_or, or_false, reduceCtorEq, false_and, and_false, and_self, or_self, false_implies, true_implies, not_true_eq_false, not_false_eq_true, implies_true, Option.some.injEq, i_add, i_a1, i_m8, i_m5, i_m401, i_40, i_80, i_r40, i_s1, i_am1, i_sub, i_lt, i_le, i_eq, i_m1, il_le_0, il_ge_0, il_lt_0, il_gt_0, il_eq_0, il_le_1, il_ge_1, il_lt_1, il_gt_1, il_eq_1, il_le_2, il_ge_2, il_lt_2, il_gt_2, il_eq_2, il_le_3, il_ge_3, il_lt_3, il_gt_3, il_eq_3, il_le_4, il_ge_4, il_lt_4, il_gt_4, il_eq_4, il_le_5, il_ge_5, il_lt_5, il_gt_5, il_eq_5, il_le_6, il_ge_6, il_lt_6, il_gt_6, il_eq_6, il_le_7, il_ge_7, il_lt_7, il_gt_7, il_eq_7, il_le_8, il_ge_8, il_lt_8, il_gt_8, il_eq_8, il_le_12, il_ge_12, il_lt_12, il_gt_12, il_eq_12, il_le_16, il_ge_16, il_lt_16, il_gt_16, il_eq_16, il_le_20, il_ge_20, il_lt_20, il_gt_20, il_eq_20, il_le_21, il_ge_21, il_lt_21, il_gt_21, il_eq_21, il_le_40, il_ge_40, il_lt_40, il_gt_40, il_eq_40, il_le_100, il_ge_100, il_lt_100, il_gt_100, il_eq_100, il_le_120, il_ge_120, il_lt_120, il_gt_120, il_eq_120, il_le_200, il_ge_200, il_lt_200, il_gt_200, il_eq_200, il_le_400, il_ge_400, il_lt_400, il_gt_400, il_eq_400, il_le_700, il_ge_700, il_lt_700, il_gt_700, il_eq_700, mv4, mr4, mw4, mv8, mw8, m_gO, m_isC, up_s, up_n, i_in, i_cl]
  refine ⟨fun c => b_q q (by simp [y_sort, c]), fun c => b_q q (by simp [y_sort, c])⟩
theorem c_asMade (hg : e_GK g) {j : Nat} {v : Int32} (hj : j < 128) (q : Ψ none (m_H M F (va_up (va_up (va_up A 9 (va_up (A 9) j v)) 10 (va_up (A 10) j 0)) 11 (va_up (A 11) j 0)) h)) : e_Sc g 156 [.ref M, .int (nI j), .int v] (m_H M F A h) Ψ := by
  refine e_call (cd := cd156) hg ok156 (by rw [mL156]; exact Nat.le_of_ble_eq_true rfl) ?_
  rw [mL156]
  simp only [x_ini, x_inr, x_inn, x_inq, x_inl, x_in0, x_rp0, x_rps, Nat.reduceSub]
  simp (decide := true) (disch := omega) only [↓u156_0, ↓x_nil, ↓x_om, ↓x_aload_0r, ↓x_aload_0n, ↓x_aload_0q, ↓x_getfield, ft_13_22, ↓x_iload_1, ↓x_iload_2, ↓x_iastore, ft_13_25, ↓x_iconst_0, ft_13_28, ↓x_return, Int.reduceAdd, Nat.reduceAdd, true_and, and_true, true_or, or_true, false_or, or_false, reduceCtorEq, false_and, and_false, and_self, or_self, false_implies, true_implies, not_true_eq_false, not_false_eq_true, implies_true, Option.some.injEq, mv9, mr9, mw9, mv10, mr10, mw10, mv11, mr11, mw11, m_gO, m_isC, up_s, up_n, i_in, i_cl]
  exact q
theorem c_isObject (hg : e_GK g) {o : Int32} (q : Ψ (some (.int (b_v (y_isIn o 0 (F 3 - 1))))) (m_H M F A h)) : e_Sc g 155 [.ref M, .int o] (m_H M F A h) Ψ := by
  refine e_call (cd := cd155) hg ok155 (by rw [mL155]; exact Nat.le_of_ble_eq_true rfl) ?_
  rw [mL155]
  simp only [x_ini, x_inr, x_inn, x_inq, x_inl, x_in0, x_rp0, x_rps, Nat.reduceSub]
  simp (decide := true) (disch := omega) only [↓u155_0, ↓x_nil, ↓x_om, ↓x_iload_1, ↓x_iconst_0, ↓x_aload_0r, ↓x_aload_0n, ↓x_aload_0q, ↓x_getfield, ft_13_234, ↓x_iconst_1, ↓x_isub, ↓x_invokestatic, mt_13_237, x_ps0, x_ps1, x_l40, x_l41, x_l42, x_l43, x_l44, ↓x_cs3_1, ↓x_ireturn, rt155, Int.reduceAdd, Nat.reduceAdd, true_and, and_true, true_or, or_true, false_or, or_false, reduceCtorEq, false_and, and_false, and_self, or_self, false_implies, true_implies, not_true_eq_false, not_false_eq_true, implies_true, Option.some.injEq, mv3, mw3, m_gO, m_isC, up_s, up_n, i_in, i_cl]
  refine c_isIn hg ?_
  simp (decide := true) (disch := omega) only [↓u155_0, ↓x_nil, ↓x_om, ↓x_iload_1, ↓x_iconst_0, ↓x_aload_0r, ↓x_aload_0n, ↓x_aload_0q, ↓x_getfield, ft_13_234, ↓x_iconst_1, ↓x_isub, ↓x_invokestatic, mt_13_237, x_ps0, x_ps1, x_l40, x_l41, x_l42, x_l43, x_l44, ↓x_cs3_1, ↓x_ireturn, rt155, Int.reduceAdd, Nat.reduceAdd, true_and, and_true, true_or, or_true, false_or, or_false, reduceCtorEq, false_and, and_false, and_self, or_self, false_implies, true_implies, not_true_eq_false, not_false_eq_true, implies_true, Option.some.injEq, b_vc, mv3, mw3, m_gO, m_isC, up_s, up_n, i_in, i_cl]
  exact q
theorem c_isOne (hg : e_GK g) {t : Int32} (q : Ψ (some (.int (b_v (y_isIn t 1 (F 44))))) (m_H M F A h)) : e_Sc g 183 [.ref M, .int t] (m_H M F A h) Ψ := by
  refine e_call (cd := cd183) hg ok183 (by rw [mL183]; exact Nat.le_of_ble_eq_true rfl) ?_
  rw [mL183]
  simp only [x_ini, x_inr, x_inn, x_inq, x_inl, x_in0, x_rp0, x_rps, Nat.reduceSub]
  simp (decide := true) (disch := omega) only [↓u183_0, ↓x_nil, ↓x_om, ↓x_iload_1, ↓x_iconst_1, ↓x_aload_0r, ↓x_aload_0n, ↓x_aload_0q, ↓x_getfield, ft_13_342, ↓x_invokestatic, mt_13_237, x_ps0, x_ps1, x_l40, x_l41, x_l42, x_l43, x_l44, ↓x_cs3_1, ↓x_ireturn, rt183, Int.reduceAdd, Nat.reduceAdd, true_and, and_true, true_or, or_true, false_or, or_false, reduceCtorEq, false_and, and_false, and_self, or_self, false_implies, true_implies, not_true_eq_false, not_false_eq_true, implies_true, Option.some.injEq, mv44, mw44, m_gO, m_isC, up_s, up_n, i_in, i_cl]
  refine c_isIn hg ?_
  simp (decide := true) (disch := omega) only [↓u183_0, ↓x_nil, ↓x_om, ↓x_iload_1, ↓x_iconst_1, ↓x_aload_0r, ↓x_aload_0n, ↓x_aload_0q, ↓x_getfield, ft_13_342, ↓x_invokestatic, mt_13_237, x_ps0, x_ps1, x_l40, x_l41, x_l42, x_l43, x_l44, ↓x_cs3_1, ↓x_ireturn, rt183, Int.reduceAdd, Nat.reduceAdd, true_and, and_true, true_or, or_true, false_or, or_false, reduceCtorEq, false_and, and_false, and_self, or_self, false_implies, true_implies, not_true_eq_false, not_false_eq_true, implies_true, Option.some.injEq, b_vc, mv44, mw44, m_gO, m_isC, up_s, up_n, i_in, i_cl]
  exact q
theorem c_forceAll (hg : e_GK g) (q : Ψ none (m_H M (va_up (va_up F 14 (F 13)) 15 0) A h)) : e_Sc g 165 [.ref M] (m_H M F A h) Ψ := by
  refine e_call (cd := cd165) hg ok165 (by rw [mL165]; exact Nat.le_of_ble_eq_true rfl) ?_
  rw [mL165]
  simp only [x_ini, x_inr, x_inn, x_inq, x_inl, x_in0, x_rp0, x_rps, Nat.reduceSub]
  simp (decide := true) (disch := omega) only [↓u165_0, ↓x_nil, ↓x_om, ↓x_aload_0r, ↓x_aload_0n, ↓x_aload_0q, ↓x_getfield, ft_13_267, ↓x_putfield, ft_13_270, x_fit0, x_fit1, x_fit2r, x_fit2n, x_fit2q, ↓x_iconst_0, ft_13_273, ↓x_return, Int.reduceAdd, Nat.reduceAdd, true_and, and_true, true_or, or_true, false_or, or_false, reduceCtorEq, false_and, and_false, and_self, or_self, false_implies, true_implies, not_true_eq_false, not_false_eq_true, implies_true, Option.some.injEq, mv13, mw13, mv14, mw14, mv15, mw15, m_gO, m_isC, up_s, up_n, i_in, i_cl]
  exact q
def y_put (w t o k a b c u : Int32) (S : m_S) : m_S := (va_up S.1 13 (S.1 13 + 1),
  va_up (va_up (va_up (va_up (va_up (va_up (va_up (va_up S.2 17 (va_up (S.2 17) (S.1 13).toNatClampNeg w)) 18 (va_up (S.2 18) (S.1 13).toNatClampNeg t)) 19 (va_up (S.2 19) (S.1 13).toNatClampNeg o)) 20 (va_up (S.2 20) (S.1 13).toNatClampNeg k)) 21 (va_up (S.2 21) (S.1 13).toNatClampNeg a)) 22 (va_up (S.2 22) (S.1 13).toNatClampNeg b)) 23 (va_up (S.2 23) (S.1 13).toNatClampNeg c)) 24 (va_up (S.2 24) (S.1 13).toNatClampNeg u))
theorem c_put (hg : e_GK g) {w t o k a b c u : Int32} (hr : vp_in (F 13) 6000) (q : Ψ none (m_H M (y_put w t o k a b c u (F, A)).1 (y_put w t o k a b c u (F, A)).2 h)) : e_Sc g 163 [.ref M, .int w, .int t, .int o, .int k, .int a, .int b, .int c, .int u] (m_H M F A h) Ψ := by
  refine e_call (cd := cd163) hg ok163 (by rw [mL163]; exact Nat.le_of_ble_eq_true rfl) ?_
  rw [mL163]
  simp only [x_ini, x_inr, x_inn, x_inq, x_inl, x_in0, x_rp0, x_rps, Nat.reduceSub]
  simp (decide := true) (disch := omega) only [↓u163_0, ↓x_nil, ↓x_om, ↓x_aload_0r, ↓x_aload_0n, ↓x_aload_0q, ↓x_getfield, ft_13_34, ft_13_267, ↓x_iload_1, ↓x_iastore, ft_13_37, ↓x_iload_2, ft_13_40, ↓x_iload_3, ft_13_43, ↓x_iload_4, ft_13_46, ↓x_iload_5, ft_13_49, ↓x_iload_6, ft_13_52, ↓x_iload_7, ft_13_55, ↓x_iload_8, ↓x_dup_i, ↓x_dup_r, ↓x_dup_n, ↓x_iconst_1, ↓x_iadd, ↓x_putfield, x_fit0, x_fit1, x_fit2r, x_fit2n, x_fit2q, ↓x_return, Int.reduceAdd, Nat.reduceAdd, true_and, and_true, true_or, or_true, false_or, or_false, reduceCtorEq, false_and, and_false, and_self, or_self, false_implies, true_implies, not_true_eq_false, not_false_eq_true, implies_true, Option.some.injEq, hr, mv13, mw13, mv17, mr17, mw17, mv18, mr18, mw18, mv19, mr19, mw19, mv20, mr20, mw20, mv21, mr21, mw21, mv22, mr22, mw22, mv23, mr23, mw23, mv24, mr24, mw24, m_gO, m_isC, up_s, up_n, i_in, i_cl]
  exact q
def y_body (n : Int32) (S : m_S) : m_S := if S.1 29 = 0 then S else if S.1 30 < 16 then (va_up S.1 30 (S.1 30 + 1), va_up S.2 31 (va_up (S.2 31) (S.1 30).toNatClampNeg n)) else S
theorem c_body (hg : e_GK g) {n : Int32} (ht : 0 ≤ F 30) (q : Ψ none (m_H M (y_body n (F, A)).1 (y_body n (F, A)).2 h)) : e_Sc g 168 [.ref M, .int n] (m_H M F A h) Ψ := by
  refine e_call (cd := cd168) hg ok168 (by rw [mL168]; exact Nat.le_of_ble_eq_true rfl) ?_
  rw [mL168]
  simp only [x_ini, x_inr, x_inn, x_inq, x_inl, x_in0, x_rp0, x_rps, Nat.reduceSub]
  simp (decide := true) (disch := omega) only [↓u168_0, ↓u168_36, ↓x_nil, ↓x_om, ↓x_aload_0r, ↓x_aload_0n, ↓x_aload_0q, ↓x_getfield, ft_13_282, ↓x_if_eq, ft_13_286, ↓x_bipush_16, ↓x_icmp_ge, ft_13_58, ↓x_iload_1, ↓x_iastore, ↓x_dup_i, ↓x_dup_r, ↓x_dup_n, ↓x_iconst_1, ↓x_iadd, ↓x_putfield, x_fit0, x_fit1, x_fit2r, x_fit2n, x_fit2q, ↓x_return, Int.reduceAdd, Nat.reduceAdd, true_and, and_true, true_or, or_true, false_or, or_false, reduceCtorEq, false_and, and_false, and_self, or_self, false_implies, true_implies, not_true_eq_false, not_false_eq_true, implies_true, Option.some.injEq, mv29, mw29, mv30, mw30, mv31, mr31, mw31, m_gO, m_isC, up_s, up_n, i_in, i_cl]
  refine ⟨fun c => by simpa [y_body, c] using q, fun c => ⟨fun c2 => by simpa [y_body, c, Int32.not_lt.mpr c2] using q, fun c2 => ⟨?_, by simpa [y_body, c, Int32.not_le.mp c2] using q⟩⟩⟩
  refine vp_in_iff.mpr ⟨Int32.le_iff_toInt_le.mp ht, ?_⟩
  exact Int32.lt_iff_toInt_lt.mp (Int32.not_le.mp c2)
theorem yb_F {n : Int32} {S : m_S} {k : Nat} (hk : k ≠ 30) : (y_body n S).1 k = S.1 k := by
  unfold y_body
  split
  · rfl
  · split
    · simp [va_up, hk]
    · rfl
theorem yb_A {n : Int32} {S : m_S} {k : Nat} (hk : k ≠ 31) : (y_body n S).2 k = S.2 k := by
  unfold y_body
  split
  · rfl
  · split
    · simp [va_up, hk]
    · rfl
theorem yb_t {n : Int32} {S : m_S} (h0 : 0 ≤ S.1 30) : 0 ≤ (y_body n S).1 30 := by
  unfold y_body
  split
  · exact h0
  · split
    · rename_i h1 h2
      simp only [va_up, if_pos]
      have e : (S.1 30 + 1).toInt = (S.1 30).toInt + 1 := by
        have a := Int32.le_iff_toInt_le.mp h0
        have b := Int32.lt_iff_toInt_lt.mp h2
        have z : (0 : Int32).toInt = 0 := by decide
        have z2 : (16 : Int32).toInt = 16 := by decide
        rw [Int32.toInt_add]
        have z3 : (1 : Int32).toInt = 1 := by decide
        rw [z3]
        rw [z] at a; rw [z2] at b
        exact Int.bmod_eq_of_le (by omega) (by omega)
      refine Int32.le_iff_toInt_le.mpr ?_
      rw [e]
      have a := Int32.le_iff_toInt_le.mp h0
      have z : (0 : Int32).toInt = 0 := by decide
      rw [z] at a ⊢
      omega
    · exact h0
/-- copying on, place by place -/
theorem cp_step {f : Nat → Int32} {s d n : Nat} (hx : s + n < d ∨ d < s) : va_cpy (va_up f d (f s)) (va_up f d (f s)) (s + 1) (d + 1) n = va_cpy f f s d (n + 1) := by
  funext q
  simp only [va_up, va_cpy]
  by_cases h1 : q = d
  · subst h1
    have h2 : ¬ (q + 1 ≤ q ∧ q < q + 1 + n) := by omega
    have h3 : q ≤ q ∧ q < q + (n + 1) := by omega
    simp only [if_neg h2, if_pos h3, if_pos, Nat.sub_self, Nat.add_zero]
  · by_cases h2 : d + 1 ≤ q ∧ q < d + 1 + n
    · have h3 : d ≤ q ∧ q < d + (n + 1) := by omega
      have h4 : ¬ s + 1 + (q - (d + 1)) = d := by omega
      rw [if_pos h2, if_pos h3, if_neg h4]
      congr 1
      omega
    · have h3 : ¬ (d ≤ q ∧ q < d + (n + 1)) := by omega
      rw [if_neg h2, if_neg h3, if_neg h1]
theorem cp_0 {f : Nat → Int32} {s d : Nat} : va_cpy f f s d 0 = f := by
  funext q
  simp only [va_cpy]
  rw [if_neg (by omega)]
theorem cp_id {f : Nat → Int32} {s n : Nat} : va_cpy f f s s n = f := by
  funext q
  simp only [va_cpy]
  split
  · congr 1; omega
  · rfl
theorem up_e {α : Type} {f : Nat → α} {k : Nat} {v : α} (h : f k = v) : va_up f k v = f := by subst h; exact up_i
def y_copy (i j : Nat) (A : Nat → Nat → Int32) : Nat → Nat → Int32 := va_up (va_up (va_up (va_up A 9 (va_up (A 9) j (A 9 i))) 10 (va_up (A 10) j (A 10 i))) 11 (va_up (A 11) j (A 11 i))) 12 (va_cpy (A 12) (A 12) (8 * i) (8 * j) 8)
theorem c_copyTo (hg : e_GK g) {i j : Nat} (hi : i < 128) (hj : j < 128) (hij : i ≠ j) (q : Ψ none (m_H M F (y_copy i j A) h)) : e_Sc g 157 [.ref M, .int (nI i), .int (nI j)] (m_H M F A h) Ψ := by
  refine e_call (cd := cd157) hg ok157 (by rw [mL157]; exact Nat.le_of_ble_eq_true rfl) ?_
  rw [mL157]
  simp only [x_ini, x_inr, x_inn, x_inq, x_inl, x_in0, x_rp0, x_rps, Nat.reduceSub]
  have loop : ∀ n k B, k + n = 8 → Ψ none (m_H M F (va_up B 12 (va_cpy (B 12) (B 12) (8 * i + k) (8 * j + k) n)) h) → e_Sm g 157 13 cd157 Ψ 38 [some (.ref M), some (.int (nI i)), some (.int (nI j)), some (.int (nI k))] [] (m_H M F B h) := by
    intro n
    induction n with
    | zero =>
      intro k B hk q
      rw [u157_38]
      simp (decide := true) (disch := omega) only [↓u157_0, ↓u157_72, ↓x_nil, ↓x_om, ↓x_aload_0r, ↓x_aload_0n, ↓x_aload_0q, ↓x_getfield, ft_13_22, ↓x_iload_2, ↓x_iload_1, ↓x_iaload, ↓x_iastore, ft_13_25, ft_13_28, ↓x_iconst_0, ↓x_istore_3, x_cl_i, x_cl_r, x_cl_n, x_cl_q, x_cl_0, x_cl_l, ↓x_iload_3, ↓x_bipush_8, ↓x_icmp_ge, ft_13_31, ↓x_imul, ↓x_iadd, ↓x_iinc_3_1, ↓x_goto, ↓x_return, Int.reduceAdd, Nat.reduceAdd, true_and, and_true, true_or, or_true, false_or, or_false, reduceCtorEq, false_and, and_false, and_self, or_self, false_implies, true_implies, not_true_eq_false, not_false_eq_true, implies_true, Option.some.injEq, i_add, i_a1, i_m8, i_m5, i_m401, i_40, i_80, i_r40, i_s1, i_am1, i_sub, i_lt, i_le, i_eq, i_m1, il_le_0, il_ge_0, il_lt_0, il_gt_0, il_eq_0, il_le_1, il_ge_1, il_lt_1, il_gt_1, il_eq_1, il_le_2, il_ge_2, il_lt_2, il_gt_2, il_eq_2, il_le_3, il_ge_3, il_lt_3, il_gt_3, il_eq_3, il_le_4, il_ge_4, il_lt_4, il_gt_4, il_eq_4, il_le_5, il_ge_5, il_lt_5, il_gt_5, il_eq_5, il_le_6, il_ge_6, il_lt_6, il_gt_6, il_eq_6, il_le_7, il_ge_7, il_lt_7, il_gt_7, il_eq_7, il_le_8, il_ge_8, il_lt_8, il_gt_8, il_eq_8, il_le_12, il_ge_12, il_lt_12, il_gt_12, il_eq_12, il_le_16, il_ge_16, il_lt_16, il_gt_16, il_eq_16, il_le_20, il_ge_20, il_lt_20, il_gt_20, il_eq_20, il_le_21, il_ge_21, il_lt_21, il_gt_21, il_eq_21, il_le_40, il_ge_40, il_lt_40, il_gt_40, il_eq_40, il_le_100, il_ge_100, il_lt_100, il_gt_100, il_eq_100, il_le_120, il_ge_120, il_lt_120, il_gt_120, il_eq_120, il_le_200, il_ge_200, il_lt_200, il_gt_200, il_eq_200, il_le_400, il_ge_400, il_lt_400, il_gt_400, il_eq_400, il_le_700, il_ge_700, il_lt_700, il_gt_700, il_eq_700, mv9, mr9, mw9, mv10, mr10, mw10, mv11, mr11, mw11, mv12, mr12, mw12, m_gO, m_isC, up_s, up_n, i_in, i_cl]
      refine ⟨fun _ => ?_, fun c => by omega⟩
      rw [cp_0, up_i] at q
      exact q
    | succ n ih =>
      intro k B hk q
      rw [u157_38]
      simp (decide := true) (disch := omega) only [↓u157_0, ↓u157_72, ↓x_nil, ↓x_om, ↓x_aload_0r, ↓x_aload_0n, ↓x_aload_0q, ↓x_getfield, ft_13_22, ↓x_iload_2, ↓x_iload_1, ↓x_iaload, ↓x_iastore, ft_13_25, ft_13_28, ↓x_iconst_0, ↓x_istore_3, x_cl_i, x_cl_r, x_cl_n, x_cl_q, x_cl_0, x_cl_l, ↓x_iload_3, ↓x_bipush_8, ↓x_icmp_ge, ft_13_31, ↓x_imul, ↓x_iadd, ↓x_iinc_3_1, ↓x_goto, ↓x_return, Int.reduceAdd, Nat.reduceAdd, true_and, and_true, true_or, or_true, false_or, or_false, reduceCtorEq, false_and, and_false, and_self, or_self, false_implies, true_implies, not_true_eq_false, not_false_eq_true, implies_true, Option.some.injEq, i_add, i_a1, i_m8, i_m5, i_m401, i_40, i_80, i_r40, i_s1, i_am1, i_sub, i_lt, i_le, i_eq, i_m1, il_le_0, il_ge_0, il_lt_0, il_gt_0, il_eq_0, il_le_1, il_ge_1, il_lt_1, il_gt_1, il_eq_1, il_le_2, il_ge_2, il_lt_2, il_gt_2, il_eq_2, il_le_3, il_ge_3, il_lt_3, il_gt_3, il_eq_3, il_le_4, il_ge_4, il_lt_4, il_gt_4, il_eq_4, il_le_5, il_ge_5, il_lt_5, il_gt_5, il_eq_5, il_le_6, il_ge_6, il_lt_6, il_gt_6, il_eq_6, il_le_7, il_ge_7, il_lt_7, il_gt_7, il_eq_7, il_le_8, il_ge_8, il_lt_8, il_gt_8, il_eq_8, il_le_12, il_ge_12, il_lt_12, il_gt_12, il_eq_12, il_le_16, il_ge_16, il_lt_16, il_gt_16, il_eq_16, il_le_20, il_ge_20, il_lt_20, il_gt_20, il_eq_20, il_le_21, il_ge_21, il_lt_21, il_gt_21, il_eq_21, il_le_40, il_ge_40, il_lt_40, il_gt_40, il_eq_40, il_le_100, il_ge_100, il_lt_100, il_gt_100, il_eq_100, il_le_120, il_ge_120, il_lt_120, il_gt_120, il_eq_120, il_le_200, il_ge_200, il_lt_200, il_gt_200, il_eq_200, il_le_400, il_ge_400, il_lt_400, il_gt_400, il_eq_400, il_le_700, il_ge_700, il_lt_700, il_gt_700, il_eq_700, mv9, mr9, mw9, mv10, mr10, mw10, mv11, mr11, mw11, mv12, mr12, mw12, m_gO, m_isC, up_s, up_n, i_in, i_cl]
      refine ⟨fun c => by omega, fun c => ih (k + 1) _ (by omega) ?_⟩
      rw [up_u, up_s]
      rw [show 8 * i + (k + 1) = 8 * i + k + 1 from rfl, show 8 * j + (k + 1) = 8 * j + k + 1 from rfl, cp_step (by omega)]
      exact q
  simp (decide := true) (disch := omega) only [↓u157_0, ↓u157_72, ↓x_nil, ↓x_om, ↓x_aload_0r, ↓x_aload_0n, ↓x_aload_0q, ↓x_getfield, ft_13_22, ↓x_iload_2, ↓x_iload_1, ↓x_iaload, ↓x_iastore, ft_13_25, ft_13_28, ↓x_iconst_0, ↓x_istore_3, x_cl_i, x_cl_r, x_cl_n, x_cl_q, x_cl_0, x_cl_l, ↓x_iload_3, ↓x_bipush_8, ↓x_icmp_ge, ft_13_31, ↓x_imul, ↓x_iadd, ↓x_iinc_3_1, ↓x_goto, ↓x_return, Int.reduceAdd, Nat.reduceAdd, true_and, and_true, true_or, or_true, false_or, or_false, reduceCtorEq, false_and, and_false, and_self, or_self, false_implies, true_implies, not_true_eq_false, not_false_eq_true, implies_true, Option.some.injEq, i_add, i_a1, i_m8, i_m5, i_m401, i_40, i_80, i_r40, i_s1, i_am1, i_sub, i_lt, i_le, i_eq, i_m1, il_le_0, il_ge_0, il_lt_0, il_gt_0, il_eq_0, il_le_1, il_ge_1, il_lt_1, il_gt_1, il_eq_1, il_le_2, il_ge_2, il_lt_2, il_gt_2, il_eq_2, il_le_3, il_ge_3, il_lt_3, il_gt_3, il_eq_3, il_le_4, il_ge_4, il_lt_4, il_gt_4, il_eq_4, il_le_5, il_ge_5, il_lt_5, il_gt_5, il_eq_5, il_le_6, il_ge_6, il_lt_6, il_gt_6, il_eq_6, il_le_7, il_ge_7, il_lt_7, il_gt_7, il_eq_7, il_le_8, il_ge_8, il_lt_8, il_gt_8, il_eq_8, il_le_12, il_ge_12, il_lt_12, il_gt_12, il_eq_12, il_le_16, il_ge_16, il_lt_16, il_gt_16, il_eq_16, il_le_20, il_ge_20, il_lt_20, il_gt_20, il_eq_20, il_le_21, il_ge_21, il_lt_21, il_gt_21, il_eq_21, il_le_40, il_ge_40, il_lt_40, il_gt_40, il_eq_40, il_le_100, il_ge_100, il_lt_100, il_gt_100, il_eq_100, il_le_120, il_ge_120, il_lt_120, il_gt_120, il_eq_120, il_le_200, il_ge_200, il_lt_200, il_gt_200, il_eq_200, il_le_400, il_ge_400, il_lt_400, il_gt_400, il_eq_400, il_le_700, il_ge_700, il_lt_700, il_gt_700, il_eq_700, mv9, mr9, mw9, mv10, mr10, mw10, mv11, mr11, mw11, mv12, mr12, mw12, m_gO, m_isC, up_s, up_n, i_in, i_cl]
  refine loop 8 0 _ rfl ?_
  exact q
def y_dgQ (f : Nat → Int32) (b : Nat) : Nat → Int32 → Int32
  | 0, d => d
  | n + 1, d => y_dgQ f (b + 1) n (31 * d + f b)
def y_dgM (t : Int32) (f : Nat → Int32) (b : Nat) (k : Nat) : Nat → Int32 → Int32
  | 0, d => d
  | n + 1, d => y_dgM t f b (k + 1) n (31 * d + (if (t >>> (nI k &&& 31)) &&& 1 = 1 then f (b + k) + 1 else 0))
def y_dig (F : Nat → Int32) (A : Nat → Nat → Int32) (x : Nat) : Int32 :=
  if y_sort F A x = 4 then y_dgQ (A 12) (8 * x) (A 10 x).toNatClampNeg 17
  else if y_sort F A x = 5 then y_dgM (A 11 x) (A 12) (8 * x) 0 8 17
  else A 9 x
theorem c_digestAt (hg : e_GK g) {x : Nat} (hx : x < 128) {z : Nat} (hz : z ≤ 8) (hs : A 10 x = nI z) (q : Ψ (some (.int (y_dig F A x))) (m_H M F A h)) : e_Sc g 159 [.ref M, .int (nI x)] (m_H M F A h) Ψ := by
  refine e_call (cd := cd159) hg ok159 (by rw [mL159]; exact Nat.le_of_ble_eq_true rfl) ?_
  rw [mL159]
  simp only [x_ini, x_inr, x_inn, x_inq, x_inl, x_in0, x_rp0, x_rps, Nat.reduceSub]
  have loop1 : ∀ n k d, k + n = z → Ψ (some (.int (y_dgQ (A 12) (8 * x + k) n d))) (m_H M F A h) → e_Sm g 159 13 cd159 Ψ 14 [some (.ref M), some (.int (nI x)), some (.int d), some (.int (nI k))] [] (m_H M F A h) := by
    intro n
    induction n with
    | zero =>
      intro k d hk q
      rw [u159_14]
      simp (decide := true) (disch := omega) only [↓u159_0, ↓u159_47, ↓u159_49, ↓u159_100, ↓u159_101, ↓u159_109, ↓u159_111, ↓x_nil, ↓x_om, ↓x_bipush_17, ↓x_istore_2, x_cl_i, x_cl_r, x_cl_n, x_cl_q, x_cl_0, x_cl_l, ↓x_aload_0r, ↓x_aload_0n, ↓x_aload_0q, ↓x_iload_1, ↓x_invokevirtual, mt_13_241, x_ps0, x_ps1, x_l40, x_l41, x_l42, x_l43, x_l44, ↓x_cv1, ↓x_iconst_4, ↓x_icmp_ne, ↓x_iconst_0, ↓x_istore_3, ↓x_iload_3, ↓x_getfield, ft_13_25, ↓x_iaload, ↓x_icmp_ge, ↓x_bipush_31, ↓x_iload_2, ↓x_imul, ft_13_31, ↓x_bipush_8, ↓x_iadd, ↓x_iinc_3_1, ↓x_goto, ↓x_ireturn, rt159, ↓x_iconst_5, ft_13_28, ↓x_ishr, ↓x_iconst_1, ↓x_iand, ft_13_22, Int.reduceAdd, Nat.reduceAdd, true_and, and_true, true_or, or_true, false_or, or_false, reduceCtorEq, false_and, and_false, and_self, or_self, false_implies, true_implies, not_true_eq_false, not_false_eq_true, implies_true, Option.some.injEq, i_add, i_a1, i_m8, i_m5, i_m401, i_40, i_80, i_r40, i_s1, i_am1, i_sub, i_lt, i_le, i_eq, i_m1, il_le_0, il_ge_0, il_lt_0, il_gt_0, il_eq_0, il_le_1, il_ge_1, il_lt_1, il_gt_1, il_eq_1, il_le_2, il_ge_2, il_lt_2, il_gt_2, il_eq_2, il_le_3, il_ge_3, il_lt_3, il_gt_3, il_eq_3, il_le_4, il_ge_4, il_lt_4, il_gt_4, il_eq_4, il_le_5, il_ge_5, il_lt_5, il_gt_5, il_eq_5, il_le_6, il_ge_6, il_lt_6, il_gt_6, il_eq_6, il_le_7, il_ge_7, il_lt_7, il_gt_7, il_eq_7, il_le_8, il_ge_8, il_lt_8, il_gt_8, il_eq_8, il_le_12, il_ge_12, il_lt_12, il_gt_12, il_eq_12, il_le_16, il_ge_16, il_lt_16, il_gt_16, il_eq_16, il_le_20, il_ge_20, il_lt_20, il_gt_20, il_eq_20, il_le_21, il_ge_21, il_lt_21, il_gt_21, il_eq_21, il_le_40, il_ge_40, il_lt_40, il_gt_40, il_eq_40, il_le_100, il_ge_100, il_lt_100, il_gt_100, il_eq_100, il_le_120, il_ge_120, il_lt_120, il_gt_120, il_eq_120, il_le_200, il_ge_200, il_lt_200, il_gt_200, il_eq_200, il_le_400, il_ge_400, il_lt_400, il_gt_400, il_eq_400, il_le_700, il_ge_700, il_lt_700, il_gt_700, il_eq_700, hs, mv9, mr9, mw9, mv10, mr10, mw10, mv11, mr11, mw11, mv12, mr12, mw12, m_gO, m_isC, up_s, up_n, i_in, i_cl]
      exact ⟨fun _ => q, fun c => by omega⟩
    | succ n ih =>
      intro k d hk q
      rw [u159_14]
      simp (decide := true) (disch := omega) only [↓u159_0, ↓u159_47, ↓u159_49, ↓u159_100, ↓u159_101, ↓u159_109, ↓u159_111, ↓x_nil, ↓x_om, ↓x_bipush_17, ↓x_istore_2, x_cl_i, x_cl_r, x_cl_n, x_cl_q, x_cl_0, x_cl_l, ↓x_aload_0r, ↓x_aload_0n, ↓x_aload_0q, ↓x_iload_1, ↓x_invokevirtual, mt_13_241, x_ps0, x_ps1, x_l40, x_l41, x_l42, x_l43, x_l44, ↓x_cv1, ↓x_iconst_4, ↓x_icmp_ne, ↓x_iconst_0, ↓x_istore_3, ↓x_iload_3, ↓x_getfield, ft_13_25, ↓x_iaload, ↓x_icmp_ge, ↓x_bipush_31, ↓x_iload_2, ↓x_imul, ft_13_31, ↓x_bipush_8, ↓x_iadd, ↓x_iinc_3_1, ↓x_goto, ↓x_ireturn, rt159, ↓x_iconst_5, ft_13_28, ↓x_ishr, ↓x_iconst_1, ↓x_iand, ft_13_22, Int.reduceAdd, Nat.reduceAdd, true_and, and_true, true_or, or_true, false_or, or_false, reduceCtorEq, false_and, and_false, and_self, or_self, false_implies, true_implies, not_true_eq_false, not_false_eq_true, implies_true, Option.some.injEq, i_add, i_a1, i_m8, i_m5, i_m401, i_40, i_80, i_r40, i_s1, i_am1, i_sub, i_lt, i_le, i_eq, i_m1, il_le_0, il_ge_0, il_lt_0, il_gt_0, il_eq_0, il_le_1, il_ge_1, il_lt_1, il_gt_1, il_eq_1, il_le_2, il_ge_2, il_lt_2, il_gt_2, il_eq_2, il_le_3, il_ge_3, il_lt_3, il_gt_3, il_eq_3, il_le_4, il_ge_4, il_lt_4, il_gt_4, il_eq_4, il_le_5, il_ge_5, il_lt_5, il_gt_5, il_eq_5, il_le_6, il_ge_6, il_lt_6, il_gt_6, il_eq_6, il_le_7, il_ge_7, il_lt_7, il_gt_7, il_eq_7, il_le_8, il_ge_8, il_lt_8, il_gt_8, il_eq_8, il_le_12, il_ge_12, il_lt_12, il_gt_12, il_eq_12, il_le_16, il_ge_16, il_lt_16, il_gt_16, il_eq_16, il_le_20, il_ge_20, il_lt_20, il_gt_20, il_eq_20, il_le_21, il_ge_21, il_lt_21, il_gt_21, il_eq_21, il_le_40, il_ge_40, il_lt_40, il_gt_40, il_eq_40, il_le_100, il_ge_100, il_lt_100, il_gt_100, il_eq_100, il_le_120, il_ge_120, il_lt_120, il_gt_120, il_eq_120, il_le_200, il_ge_200, il_lt_200, il_gt_200, il_eq_200, il_le_400, il_ge_400, il_lt_400, il_gt_400, il_eq_400, il_le_700, il_ge_700, il_lt_700, il_gt_700, il_eq_700, hs, mv9, mr9, mw9, mv10, mr10, mw10, mv11, mr11, mw11, mv12, mr12, mw12, m_gO, m_isC, up_s, up_n, i_in, i_cl]
      exact ⟨fun c => by omega, fun c => ih (k + 1) _ (by omega) q⟩
  have loop2 : ∀ n k d, k + n = 8 → Ψ (some (.int (y_dgM (A 11 x) (A 12) (8 * x) k n d))) (m_H M F A h) → e_Sm g 159 13 cd159 Ψ 60 [some (.ref M), some (.int (nI x)), some (.int d), some (.int (nI k))] [] (m_H M F A h) := by
    intro n
    induction n with
    | zero =>
      intro k d hk q
      rw [u159_60]
      simp (decide := true) (disch := omega) only [↓u159_0, ↓u159_47, ↓u159_49, ↓u159_100, ↓u159_101, ↓u159_109, ↓u159_111, ↓x_nil, ↓x_om, ↓x_bipush_17, ↓x_istore_2, x_cl_i, x_cl_r, x_cl_n, x_cl_q, x_cl_0, x_cl_l, ↓x_aload_0r, ↓x_aload_0n, ↓x_aload_0q, ↓x_iload_1, ↓x_invokevirtual, mt_13_241, x_ps0, x_ps1, x_l40, x_l41, x_l42, x_l43, x_l44, ↓x_cv1, ↓x_iconst_4, ↓x_icmp_ne, ↓x_iconst_0, ↓x_istore_3, ↓x_iload_3, ↓x_getfield, ft_13_25, ↓x_iaload, ↓x_icmp_ge, ↓x_bipush_31, ↓x_iload_2, ↓x_imul, ft_13_31, ↓x_bipush_8, ↓x_iadd, ↓x_iinc_3_1, ↓x_goto, ↓x_ireturn, rt159, ↓x_iconst_5, ft_13_28, ↓x_ishr, ↓x_iconst_1, ↓x_iand, ft_13_22, Int.reduceAdd, Nat.reduceAdd, true_and, and_true, true_or, or_true, false_or, or_false, reduceCtorEq, false_and, and_false, and_self, or_self, false_implies, true_implies, not_true_eq_false, not_false_eq_true, implies_true, Option.some.injEq, i_add, i_a1, i_m8, i_m5, i_m401, i_40, i_80, i_r40, i_s1, i_am1, i_sub, i_lt, i_le, i_eq, i_m1, il_le_0, il_ge_0, il_lt_0, il_gt_0, il_eq_0, il_le_1, il_ge_1, il_lt_1, il_gt_1, il_eq_1, il_le_2, il_ge_2, il_lt_2, il_gt_2, il_eq_2, il_le_3, il_ge_3, il_lt_3, il_gt_3, il_eq_3, il_le_4, il_ge_4, il_lt_4, il_gt_4, il_eq_4, il_le_5, il_ge_5, il_lt_5, il_gt_5, il_eq_5, il_le_6, il_ge_6, il_lt_6, il_gt_6, il_eq_6, il_le_7, il_ge_7, il_lt_7, il_gt_7, il_eq_7, il_le_8, il_ge_8, il_lt_8, il_gt_8, il_eq_8, il_le_12, il_ge_12, il_lt_12, il_gt_12, il_eq_12, il_le_16, il_ge_16, il_lt_16, il_gt_16, il_eq_16, il_le_20, il_ge_20, il_lt_20, il_gt_20, il_eq_20, il_le_21, il_ge_21, il_lt_21, il_gt_21, il_eq_21, il_le_40, il_ge_40, il_lt_40, il_gt_40, il_eq_40, il_le_100, il_ge_100, il_lt_100, il_gt_100, il_eq_100, il_le_120, il_ge_120, il_lt_120, il_gt_120, il_eq_120, il_le_200, il_ge_200, il_lt_200, il_gt_200, il_eq_200, il_le_400, il_ge_400, il_lt_400, il_gt_400, il_eq_400, il_le_700, il_ge_700, il_lt_700, il_gt_700, il_eq_700, hs, mv9, mr9, mw9, mv10, mr10, mw10, mv11, mr11, mw11, mv12, mr12, mw12, m_gO, m_isC, up_s, up_n, i_in, i_cl]
      exact ⟨fun _ => q, fun c => by omega⟩
    | succ n ih =>
      intro k d hk q
      rw [u159_60]
      simp (decide := true) (disch := omega) only [↓u159_0, ↓u159_47, ↓u159_49, ↓u159_100, ↓u159_101, ↓u159_109, ↓u159_111, ↓x_nil, ↓x_om, ↓x_bipush_17, ↓x_istore_2, x_cl_i, x_cl_r, x_cl_n, x_cl_q, x_cl_0, x_cl_l, ↓x_aload_0r, ↓x_aload_0n, ↓x_aload_0q, ↓x_iload_1, ↓x_invokevirtual, mt_13_241, x_ps0, x_ps1, x_l40, x_l41, x_l42, x_l43, x_l44, ↓x_cv1, ↓x_iconst_4, ↓x_icmp_ne, ↓x_iconst_0, ↓x_istore_3, ↓x_iload_3, ↓x_getfield, ft_13_25, ↓x_iaload, ↓x_icmp_ge, ↓x_bipush_31, ↓x_iload_2, ↓x_imul, ft_13_31, ↓x_bipush_8, ↓x_iadd, ↓x_iinc_3_1, ↓x_goto, ↓x_ireturn, rt159, ↓x_iconst_5, ft_13_28, ↓x_ishr, ↓x_iconst_1, ↓x_iand, ft_13_22, Int.reduceAdd, Nat.reduceAdd, true_and, and_true, true_or, or_true, false_or, or_false, reduceCtorEq, false_and, and_false, and_self, or_self, false_implies, true_implies, not_true_eq_false, not_false_eq_true, implies_true, Option.some.injEq, i_add, i_a1, i_m8, i_m5, i_m401, i_40, i_80, i_r40, i_s1, i_am1, i_sub, i_lt, i_le, i_eq, i_m1, il_le_0, il_ge_0, il_lt_0, il_gt_0, il_eq_0, il_le_1, il_ge_1, il_lt_1, il_gt_1, il_eq_1, il_le_2, il_ge_2, il_lt_2, il_gt_2, il_eq_2, il_le_3, il_ge_3, il_lt_3, il_gt_3, il_eq_3, il_le_4, il_ge_4, il_lt_4, il_gt_4, il_eq_4, il_le_5, il_ge_5, il_lt_5, il_gt_5, il_eq_5, il_le_6, il_ge_6, il_lt_6, il_gt_6, il_eq_6, il_le_7, il_ge_7, il_lt_7, il_gt_7, il_eq_7, il_le_8, il_ge_8, il_lt_8, il_gt_8, il_eq_8, il_le_12, il_ge_12, il_lt_12, il_gt_12, il_eq_12, il_le_16, il_ge_16, il_lt_16, il_gt_16, il_eq_16, il_le_20, il_ge_20, il_lt_20, il_gt_20, il_eq_20, il_le_21, il_ge_21, il_lt_21, il_gt_21, il_eq_21, il_le_40, il_ge_40, il_lt_40, il_gt_40, il_eq_40, il_le_100, il_ge_100, il_lt_100, il_gt_100, il_eq_100, il_le_120, il_ge_120, il_lt_120, il_gt_120, il_eq_120, il_le_200, il_ge_200, il_lt_200, il_gt_200, il_eq_200, il_le_400, il_ge_400, il_lt_400, il_gt_400, il_eq_400, il_le_700, il_ge_700, il_lt_700, il_gt_700, il_eq_700, hs, mv9, mr9, mw9, mv10, mr10, mw10, mv11, mr11, mw11, mv12, mr12, mw12, m_gO, m_isC, up_s, up_n, i_in, i_cl]
      refine ⟨fun c => by omega, fun c => ⟨fun c2 => ih (k + 1) _ (by omega) ?_, fun c2 => ih (k + 1) _ (by omega) ?_⟩⟩
      · trace_state
        sorry
      · sorry
  simp (decide := true) (disch := omega) only [↓u159_0, ↓u159_47, ↓u159_49, ↓u159_100, ↓u159_101, ↓u159_109, ↓u159_111, ↓x_nil, ↓x_om, ↓x_bipush_17, ↓x_istore_2, x_cl_i, x_cl_r, x_cl_n, x_cl_q, x_cl_0, x_cl_l, ↓x_aload_0r, ↓x_aload_0n, ↓x_aload_0q, ↓x_iload_1, ↓x_invokevirtual, mt_13_241, x_ps0, x_ps1, x_l40, x_l41, x_l42, x_l43, x_l44, ↓x_cv1, ↓x_iconst_4, ↓x_icmp_ne, ↓x_iconst_0, ↓x_istore_3, ↓x_iload_3, ↓x_getfield, ft_13_25, ↓x_iaload, ↓x_icmp_ge, ↓x_bipush_31, ↓x_iload_2, ↓x_imul, ft_13_31, ↓x_bipush_8, ↓x_iadd, ↓x_iinc_3_1, ↓x_goto, ↓x_ireturn, rt159, ↓x_iconst_5, ft_13_28, ↓x_ishr, ↓x_iconst_1, ↓x_iand, ft_13_22, Int.reduceAdd, Nat.reduceAdd, true_and, and_true, true_or, or_true, false_or, or_false, reduceCtorEq, false_and, and_false, and_self, or_self, false_implies, true_implies, not_true_eq_false, not_false_eq_true, implies_true, Option.some.injEq, i_add, i_a1, i_m8, i_m5, i_m401, i_40, i_80, i_r40, i_s1, i_am1, i_sub, i_lt, i_le, i_eq, i_m1, il_le_0, il_ge_0, il_lt_0, il_gt_0, il_eq_0, il_le_1, il_ge_1, il_lt_1, il_gt_1, il_eq_1, il_le_2, il_ge_2, il_lt_2, il_gt_2, il_eq_2, il_le_3, il_ge_3, il_lt_3, il_gt_3, il_eq_3, il_le_4, il_ge_4, il_lt_4, il_gt_4, il_eq_4, il_le_5, il_ge_5, il_lt_5, il_gt_5, il_eq_5, il_le_6, il_ge_6, il_lt_6, il_gt_6, il_eq_6, il_le_7, il_ge_7, il_lt_7, il_gt_7, il_eq_7, il_le_8, il_ge_8, il_lt_8, il_gt_8, il_eq_8, il_le_12, il_ge_12, il_lt_12, il_gt_12, il_eq_12, il_le_16, il_ge_16, il_lt_16, il_gt_16, il_eq_16, il_le_20, il_ge_20, il_lt_20, il_gt_20, il_eq_20, il_le_21, il_ge_21, il_lt_21, il_gt_21, il_eq_21, il_le_40, il_ge_40, il_lt_40, il_gt_40, il_eq_40, il_le_100, il_ge_100, il_lt_100, il_gt_100, il_eq_100, il_le_120, il_ge_120, il_lt_120, il_gt_120, il_eq_120, il_le_200, il_ge_200, il_lt_200, il_gt_200, il_eq_200, il_le_400, il_ge_400, il_lt_400, il_gt_400, il_eq_400, il_le_700, il_ge_700, il_lt_700, il_gt_700, il_eq_700, mv9, mr9, mw9, mv10, mr10, mw10, mv11, mr11, mw11, mv12, mr12, mw12, m_gO, m_isC, up_s, up_n, i_in, i_cl]
  refine c_sortAt hg hx ?_
  simp (decide := true) (disch := omega) only [↓u159_0, ↓u159_47, ↓u159_49, ↓u159_100, ↓u159_101, ↓u159_109, ↓u159_111, ↓x_nil, ↓x_om, ↓x_bipush_17, ↓x_istore_2, x_cl_i, x_cl_r, x_cl_n, x_cl_q, x_cl_0, x_cl_l, ↓x_aload_0r, ↓x_aload_0n, ↓x_aload_0q, ↓x_iload_1, ↓x_invokevirtual, mt_13_241, x_ps0, x_ps1, x_l40, x_l41, x_l42, x_l43, x_l44, ↓x_cv1, ↓x_iconst_4, ↓x_icmp_ne, ↓x_iconst_0, ↓x_istore_3, ↓x_iload_3, ↓x_getfield, ft_13_25, ↓x_iaload, ↓x_icmp_ge, ↓x_bipush_31, ↓x_iload_2, ↓x_imul, ft_13_31, ↓x_bipush_8, ↓x_iadd, ↓x_iinc_3_1, ↓x_goto, ↓x_ireturn, rt159, ↓x_iconst_5, ft_13_28, ↓x_ishr, ↓x_iconst_1, ↓x_iand, ft_13_22, Int.reduceAdd, Nat.reduceAdd, true_and, and_true, true_or, or_true, false_or, or_false, reduceCtorEq, false_and, and_false, and_self, or_self, false_implies, true_implies, not_true_eq_false, not_false_eq_true, implies_true, Option.some.injEq, i_add, i_a1, i_m8, i_m5, i_m401, i_40, i_80, i_r40, i_s1, i_am1, i_sub, i_lt, i_le, i_eq, i_m1, il_le_0, il_ge_0, il_lt_0, il_gt_0, il_eq_0, il_le_1, il_ge_1, il_lt_1, il_gt_1, il_eq_1, il_le_2, il_ge_2, il_lt_2, il_gt_2, il_eq_2, il_le_3, il_ge_3, il_lt_3, il_gt_3, il_eq_3, il_le_4, il_ge_4, il_lt_4, il_gt_4, il_eq_4, il_le_5, il_ge_5, il_lt_5, il_gt_5, il_eq_5, il_le_6, il_ge_6, il_lt_6, il_gt_6, il_eq_6, il_le_7, il_ge_7, il_lt_7, il_gt_7, il_eq_7, il_le_8, il_ge_8, il_lt_8, il_gt_8, il_eq_8, il_le_12, il_ge_12, il_lt_12, il_gt_12, il_eq_12, il_le_16, il_ge_16, il_lt_16, il_gt_16, il_eq_16, il_le_20, il_ge_20, il_lt_20, il_gt_20, il_eq_20, il_le_21, il_ge_21, il_lt_21, il_gt_21, il_eq_21, il_le_40, il_ge_40, il_lt_40, il_gt_40, il_eq_40, il_le_100, il_ge_100, il_lt_100, il_gt_100, il_eq_100, il_le_120, il_ge_120, il_lt_120, il_gt_120, il_eq_120, il_le_200, il_ge_200, il_lt_200, il_gt_200, il_eq_200, il_le_400, il_ge_400, il_lt_400, il_gt_400, il_eq_400, il_le_700, il_ge_700, il_lt_700, il_gt_700, il_eq_700, mv9, mr9, mw9, mv10, mr10, mw10, mv11, mr11, mw11, mv12, mr12, mw12, m_gO, m_isC, up_s, up_n, i_in, i_cl]
  trace_state
  sorry
end MB
