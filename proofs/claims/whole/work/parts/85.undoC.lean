/-! undoActs -/
section RN
variable {g : e_G} {Ψ : e_Q} {B : Nat → Option e_Cl} {Z Z' Z'' : k_Z} {P P' P'' : k_P} {U U' U'' : k_U} {r r' : Nat × Nat} {S : m_S} {N own n b nr na t i : Nat} {ch : Nat → List Nat}
theorem s_undoActs (hg : e_GK g) (hA : e_AK g) {d left rem f0 : Nat} (hb : b ≤ 400) (h1 : 1 ≤ t) (h2 : t ≤ b) (hR : R_u N own n b nr na ch Z P U r S) (hu : undw S.2 t) (td : Z.1 d = 3) (en : P.1 40 d = nI t) (ea : P.1 46 d = nI (left + rem)) (ef : P.1 51 d = nI f0) (hf0 : f0 ≤ 2000) (hf : ∀ j ∈ ch t, f0 ≤ ar S.2 j) (hl : (ch t).length = left + rem) (hn : nr + rem ≤ 1400)
    (q : ∀ Z' P' U' r', D_u N own n b na t d left rem ch nr Z P U r S Z' P' U' r' → Ψ (some (.int (nI rem))) (K_H Z' P' U' (B, r'))) : e_Sc g 136 [.ref own, .ref d, .int (nI left)] (K_H Z P U (B, r)) Ψ := by
  have loop : ∀ (k rem gone nr : Nat) (ch : Nat → List Nat) (Z : k_Z) (P : k_P) (U : k_U) (r : Nat × Nat) (S : m_S) (v : Int32) (w5 : Option Value), R_u N own n b nr na ch Z P U r S → undw S.2 t → Z.1 d = 3 → P.1 40 d = nI t → P.1 46 d = nI (left + rem) → P.1 51 d = nI f0 → (∀ j ∈ ch t, f0 ≤ ar S.2 j) → (ch t).length = left + rem → nr + rem ≤ 1400 → v = nI k - 1 → k ≤ nr → (∀ j ∈ ch t, ar S.2 j < k) →
      (∀ Z' P' U' r', D_u N own n b na t d left rem ch nr Z P U r S Z' P' U' r' → Ψ (some (.int (nI (gone + rem)))) (K_H Z' P' U' (B, r'))) →
      e_Sm g 136 12 cd136 Ψ 13 [some (.ref own), some (.ref d), some (.int (nI left)), some (.int (nI gone)), some (.int v), w5] [] (K_H Z P U (B, r)) := by
    intro k
    induction k with
    | zero =>
      intro rem gone nr ch Z P U r S v w5 hR hu td en ea ef hf hl hn ev hk hlt q
      have hch := hR.2.1.2.2.2.2.2.2.1 t h1 h2 (Or.inl hu)
      have r0 : rem = 0 := by
        cases hx : ch t with
        | nil => rw [hx] at hl; simp at hl; omega
        | cons j l' => have := hlt j (by rw [hx]; exact List.mem_cons_self); omega
      subst r0
      subst ev
      have c0 : nI 0 - 1 < nI f0 := by
        rw [Int32.lt_iff_toInt_lt, nI_toInt (by omega), show (nI 0 - 1).toInt = -1 from by decide]
        omega
      have fin := q Z P U r ⟨by rw [List.drop_zero, up1_id]; exact hR, trivial, FR.rf, by rw [Nat.add_zero] at ea; exact ea, k_ro.rf⟩
      rw [Nat.add_zero] at fin
      obtain ⟨a1, a2, a3, a4, a5, a6, a7, a8, a9, a10⟩ := hR.1.1.hse hR.1.2.1
      rw [u136_13]
      simp (decide := true) (disch := first | assumption | omega) only [↓u136_0, ↓u136_103, ↓x_nil, ↓x_om, ↓x_iconst_0, ↓x_istore_3, x_cl_i, x_cl_r, x_cl_n, x_cl_q, x_cl_0, x_cl_l, ↓x_aload_0r, ↓x_aload_0n, ↓x_aload_0q, ↓x_getfield, ft_12_44, ↓x_invokevirtual, mt_12_176, x_ps0, x_ps1, x_l40, x_l41, x_l42, x_l43, x_l44, ↓x_cv0, ↓x_iconst_1, ↓x_isub, ↓x_istore_4, ↓x_iload_4, ↓x_aload_1r, ↓x_aload_1n, ↓x_aload_1q, ft_12_381, ↓x_icmp_lt, ft_12_158, ↓x_iload_2, ↓x_icmp_le, mt_12_278, ↓x_cv1, ↓x_astore_5r, ↓x_astore_5n, ↓x_astore_5q, ↓x_aload_5r, ↓x_aload_5n, ↓x_aload_5q, ↓x_ifnull_n, ↓x_ifnull_r, ↓x_ifnull_q, mt_12_397, ↓x_if_eq, ft_12_12, mt_12_401, ↓x_putfield, ft_12_404, x_fit0, x_fit1, x_fit2r, x_fit2n, x_fit2q, mt_12_407, mt_12_106, ↓x_dup_i, ↓x_dup_r, ↓x_dup_n, ↓x_iinc_3_1, ↓x_iinc_4_m1, ↓x_goto, ↓x_iload_3, ↓x_ireturn, rt136, Int.reduceAdd, Nat.reduceAdd, true_and, and_true, true_or, or_true, false_or, or_false, reduceCtorEq, false_and, and_false, and_self, or_self, false_implies, true_implies, not_true_eq_false, not_false_eq_true, implies_true, Option.some.injEq, ef, kg12, kv12_7, ki4, kg2, kv2_11, kv2_6, ki7, kv12_0, ki8, kg7, kv7_9, kw7_9, k_rs, k_rn, k_r2, k_c2, kw2_6, up_s, up_n]
      exact ⟨fun _ => fin, fun c => absurd c0 c⟩
    | succ k ih =>
      intro rem gone nr ch Z P U r S v w5 hR hu td en ea ef hf hl hn ev hk hlt q
      have hch := hR.2.1.2.2.2.2.2.2.1 t h1 h2 (Or.inl hu)
      have ev' : v = nI k := by rw [ev, i_s1 (by omega), Nat.add_sub_cancel]
      clear ev
      subst ev'
      obtain ⟨a1, a2, a3, a4, a5, a6, a7, a8, a9, a10⟩ := hR.1.1.hse hR.1.2.1
      have lenL := hR.2.2.1.1
      have hl6 := hch.2.1
      have tO := hR.1.2.1
      cases rem with
      | zero =>
        have fin := q Z P U r ⟨by rw [List.drop_zero, up1_id]; exact hR, trivial, FR.rf, by rw [Nat.add_zero] at ea; exact ea, k_ro.rf⟩
        rw [Nat.add_zero] at fin
        rw [u136_13]
        simp (decide := true) (disch := first | assumption | omega) only [↓u136_0, ↓u136_103, ↓x_nil, ↓x_om, ↓x_iconst_0, ↓x_istore_3, x_cl_i, x_cl_r, x_cl_n, x_cl_q, x_cl_0, x_cl_l, ↓x_aload_0r, ↓x_aload_0n, ↓x_aload_0q, ↓x_getfield, ft_12_44, ↓x_invokevirtual, mt_12_176, x_ps0, x_ps1, x_l40, x_l41, x_l42, x_l43, x_l44, ↓x_cv0, ↓x_iconst_1, ↓x_isub, ↓x_istore_4, ↓x_iload_4, ↓x_aload_1r, ↓x_aload_1n, ↓x_aload_1q, ft_12_381, ↓x_icmp_lt, ft_12_158, ↓x_iload_2, ↓x_icmp_le, mt_12_278, ↓x_cv1, ↓x_astore_5r, ↓x_astore_5n, ↓x_astore_5q, ↓x_aload_5r, ↓x_aload_5n, ↓x_aload_5q, ↓x_ifnull_n, ↓x_ifnull_r, ↓x_ifnull_q, mt_12_397, ↓x_if_eq, ft_12_12, mt_12_401, ↓x_putfield, ft_12_404, x_fit0, x_fit1, x_fit2r, x_fit2n, x_fit2q, mt_12_407, mt_12_106, ↓x_dup_i, ↓x_dup_r, ↓x_dup_n, ↓x_iinc_3_1, ↓x_iinc_4_m1, ↓x_goto, ↓x_iload_3, ↓x_ireturn, rt136, Int.reduceAdd, Nat.reduceAdd, true_and, and_true, true_or, or_true, false_or, or_false, reduceCtorEq, false_and, and_false, and_self, or_self, false_implies, true_implies, not_true_eq_false, not_false_eq_true, implies_true, Option.some.injEq, i_add, i_a1, i_m8, i_m5, i_m401, i_40, i_80, i_r40, i_s1, i_am1, i_sub, i_lt, i_le, i_eq, i_m1, il_le_0, il_ge_0, il_lt_0, il_gt_0, il_eq_0, il_le_1, il_ge_1, il_lt_1, il_gt_1, il_eq_1, il_le_2, il_ge_2, il_lt_2, il_gt_2, il_eq_2, il_le_3, il_ge_3, il_lt_3, il_gt_3, il_eq_3, il_le_4, il_ge_4, il_lt_4, il_gt_4, il_eq_4, il_le_5, il_ge_5, il_lt_5, il_gt_5, il_eq_5, il_le_6, il_ge_6, il_lt_6, il_gt_6, il_eq_6, il_le_7, il_ge_7, il_lt_7, il_gt_7, il_eq_7, il_le_8, il_ge_8, il_lt_8, il_gt_8, il_eq_8, il_le_12, il_ge_12, il_lt_12, il_gt_12, il_eq_12, il_le_16, il_ge_16, il_lt_16, il_gt_16, il_eq_16, il_le_20, il_ge_20, il_lt_20, il_gt_20, il_eq_20, il_le_21, il_ge_21, il_lt_21, il_gt_21, il_eq_21, il_le_40, il_ge_40, il_lt_40, il_gt_40, il_eq_40, il_le_100, il_ge_100, il_lt_100, il_gt_100, il_eq_100, il_le_120, il_ge_120, il_lt_120, il_gt_120, il_eq_120, il_le_200, il_ge_200, il_lt_200, il_gt_200, il_eq_200, il_le_400, il_ge_400, il_lt_400, il_gt_400, il_eq_400, il_le_700, il_ge_700, il_lt_700, il_gt_700, il_eq_700, ef, ea, kg12, kv12_7, ki4, kg2, kv2_11, kv2_6, ki7, kv12_0, ki8, kg7, kv7_9, kw7_9, k_rs, k_rn, k_r2, k_c2, kw2_6, up_s, up_n]
        exact ⟨fun _ => fin, fun _ => ⟨fun _ => fin, fun c => by omega⟩⟩
      | succ rem =>
        obtain ⟨i, l', hc⟩ : ∃ i l', ch t = i :: l' := by
          cases hx : ch t with
          | nil => rw [hx] at hl; simp at hl
          | cons i l' => exact ⟨i, l', rfl⟩
        have memi : i ∈ ch t := by rw [hc]; exact List.mem_cons_self
        have hi := hlt i memi
        have hfi := hf i memi
        have hkl : k < (U.2.1 (own + 18)).length := by omega
        have hy : (U.2.1 (own + 18))[k]? = some (U.2.1 (own + 18))[k] := List.getElem?_eq_getElem hkl
        generalize (U.2.1 (own + 18))[k] = y at hy
        have t18 := hR.1.1.log a8
        have ty : Z.1 y = 8 := hR.1.1.lro t18 (List.mem_of_getElem? hy)
        have n97 : ∀ (gone : Nat) (Z : k_Z) (P : k_P) (U : k_U) (r : Nat × Nat), e_Sm g 136 12 cd136 Ψ 13 [some (.ref own), some (.ref d), some (.int (nI left)), some (.int (nI gone)), some (.int (nI k + (-1))), some (.ref y)] [] (K_H Z P U (B, r)) → e_Sm g 136 12 cd136 Ψ 97 [some (.ref own), some (.ref d), some (.int (nI left)), some (.int (nI gone)), some (.int (nI k)), some (.ref y)] [] (K_H Z P U (B, r)) := fun gone Z P U r h => by
          rw [u136_97]
          simp (decide := true) (disch := first | assumption | omega) only [↓u136_0, ↓u136_103, ↓x_nil, ↓x_om, ↓x_iconst_0, ↓x_istore_3, x_cl_i, x_cl_r, x_cl_n, x_cl_q, x_cl_0, x_cl_l, ↓x_aload_0r, ↓x_aload_0n, ↓x_aload_0q, ↓x_getfield, ft_12_44, ↓x_invokevirtual, mt_12_176, x_ps0, x_ps1, x_l40, x_l41, x_l42, x_l43, x_l44, ↓x_cv0, ↓x_iconst_1, ↓x_isub, ↓x_istore_4, ↓x_iload_4, ↓x_aload_1r, ↓x_aload_1n, ↓x_aload_1q, ft_12_381, ↓x_icmp_lt, ft_12_158, ↓x_iload_2, ↓x_icmp_le, mt_12_278, ↓x_cv1, ↓x_astore_5r, ↓x_astore_5n, ↓x_astore_5q, ↓x_aload_5r, ↓x_aload_5n, ↓x_aload_5q, ↓x_ifnull_n, ↓x_ifnull_r, ↓x_ifnull_q, mt_12_397, ↓x_if_eq, ft_12_12, mt_12_401, ↓x_putfield, ft_12_404, x_fit0, x_fit1, x_fit2r, x_fit2n, x_fit2q, mt_12_407, mt_12_106, ↓x_dup_i, ↓x_dup_r, ↓x_dup_n, ↓x_iinc_3_1, ↓x_iinc_4_m1, ↓x_goto, ↓x_iload_3, ↓x_ireturn, rt136, Int.reduceAdd, Nat.reduceAdd, true_and, and_true, true_or, or_true, false_or, or_false, reduceCtorEq, false_and, and_false, and_self, or_self, false_implies, true_implies, not_true_eq_false, not_false_eq_true, implies_true, Option.some.injEq, kg12, kv12_7, ki4, kg2, kv2_11, kv2_6, ki7, kv12_0, ki8, kg7, kv7_9, kw7_9, k_rs, k_rn, k_r2, k_c2, kw2_6, up_s, up_n]
          exact h
        have hrow := (hR.2.2.1.2.2.1 k y hy).1
        have hact := hR.2.2.1.2.2.2.1 t h1 h2 (Or.inl hu) k y hy
        rw [u136_13]
        simp (decide := true) (disch := first | assumption | omega) only [↓u136_0, ↓u136_103, ↓x_nil, ↓x_om, ↓x_iconst_0, ↓x_istore_3, x_cl_i, x_cl_r, x_cl_n, x_cl_q, x_cl_0, x_cl_l, ↓x_aload_0r, ↓x_aload_0n, ↓x_aload_0q, ↓x_getfield, ft_12_44, ↓x_invokevirtual, mt_12_176, x_ps0, x_ps1, x_l40, x_l41, x_l42, x_l43, x_l44, ↓x_cv0, ↓x_iconst_1, ↓x_isub, ↓x_istore_4, ↓x_iload_4, ↓x_aload_1r, ↓x_aload_1n, ↓x_aload_1q, ft_12_381, ↓x_icmp_lt, ft_12_158, ↓x_iload_2, ↓x_icmp_le, mt_12_278, ↓x_cv1, ↓x_astore_5r, ↓x_astore_5n, ↓x_astore_5q, ↓x_aload_5r, ↓x_aload_5n, ↓x_aload_5q, ↓x_ifnull_n, ↓x_ifnull_r, ↓x_ifnull_q, mt_12_397, ↓x_if_eq, ft_12_12, mt_12_401, ↓x_putfield, ft_12_404, x_fit0, x_fit1, x_fit2r, x_fit2n, x_fit2q, mt_12_407, mt_12_106, ↓x_dup_i, ↓x_dup_r, ↓x_dup_n, ↓x_iinc_3_1, ↓x_iinc_4_m1, ↓x_goto, ↓x_iload_3, ↓x_ireturn, rt136, Int.reduceAdd, Nat.reduceAdd, true_and, and_true, true_or, or_true, false_or, or_false, reduceCtorEq, false_and, and_false, and_self, or_self, false_implies, true_implies, not_true_eq_false, not_false_eq_true, implies_true, Option.some.injEq, i_add, i_a1, i_m8, i_m5, i_m401, i_40, i_80, i_r40, i_s1, i_am1, i_sub, i_lt, i_le, i_eq, i_m1, il_le_0, il_ge_0, il_lt_0, il_gt_0, il_eq_0, il_le_1, il_ge_1, il_lt_1, il_gt_1, il_eq_1, il_le_2, il_ge_2, il_lt_2, il_gt_2, il_eq_2, il_le_3, il_ge_3, il_lt_3, il_gt_3, il_eq_3, il_le_4, il_ge_4, il_lt_4, il_gt_4, il_eq_4, il_le_5, il_ge_5, il_lt_5, il_gt_5, il_eq_5, il_le_6, il_ge_6, il_lt_6, il_gt_6, il_eq_6, il_le_7, il_ge_7, il_lt_7, il_gt_7, il_eq_7, il_le_8, il_ge_8, il_lt_8, il_gt_8, il_eq_8, il_le_12, il_ge_12, il_lt_12, il_gt_12, il_eq_12, il_le_16, il_ge_16, il_lt_16, il_gt_16, il_eq_16, il_le_20, il_ge_20, il_lt_20, il_gt_20, il_eq_20, il_le_21, il_ge_21, il_lt_21, il_gt_21, il_eq_21, il_le_40, il_ge_40, il_lt_40, il_gt_40, il_eq_40, il_le_100, il_ge_100, il_lt_100, il_gt_100, il_eq_100, il_le_120, il_ge_120, il_lt_120, il_gt_120, il_eq_120, il_le_200, il_ge_200, il_lt_200, il_gt_200, il_eq_200, il_le_400, il_ge_400, il_lt_400, il_gt_400, il_eq_400, il_le_700, il_ge_700, il_lt_700, il_gt_700, il_eq_700, ef, ea, kg12, kv12_7, ki4, kg2, kv2_11, kv2_6, ki7, kv12_0, ki8, kg7, kv7_9, kw7_9, k_rs, k_rn, k_r2, k_c2, kw2_6, up_s, up_n]
        refine ⟨fun c => by omega, fun _ => ⟨fun c => by omega, fun _ => h_logAt hg hA hR.1.1 a8 hy (by rw [show own + 17 + 1 = own + 18 from rfl, lenL]; omega) ?_⟩⟩
        simp (decide := true) (disch := first | assumption | omega) only [↓u136_0, ↓u136_103, ↓x_nil, ↓x_om, ↓x_iconst_0, ↓x_istore_3, x_cl_i, x_cl_r, x_cl_n, x_cl_q, x_cl_0, x_cl_l, ↓x_aload_0r, ↓x_aload_0n, ↓x_aload_0q, ↓x_getfield, ft_12_44, ↓x_invokevirtual, mt_12_176, x_ps0, x_ps1, x_l40, x_l41, x_l42, x_l43, x_l44, ↓x_cv0, ↓x_iconst_1, ↓x_isub, ↓x_istore_4, ↓x_iload_4, ↓x_aload_1r, ↓x_aload_1n, ↓x_aload_1q, ft_12_381, ↓x_icmp_lt, ft_12_158, ↓x_iload_2, ↓x_icmp_le, mt_12_278, ↓x_cv1, ↓x_astore_5r, ↓x_astore_5n, ↓x_astore_5q, ↓x_aload_5r, ↓x_aload_5n, ↓x_aload_5q, ↓x_ifnull_n, ↓x_ifnull_r, ↓x_ifnull_q, mt_12_397, ↓x_if_eq, ft_12_12, mt_12_401, ↓x_putfield, ft_12_404, x_fit0, x_fit1, x_fit2r, x_fit2n, x_fit2q, mt_12_407, mt_12_106, ↓x_dup_i, ↓x_dup_r, ↓x_dup_n, ↓x_iinc_3_1, ↓x_iinc_4_m1, ↓x_goto, ↓x_iload_3, ↓x_ireturn, rt136, Int.reduceAdd, Nat.reduceAdd, true_and, and_true, true_or, or_true, false_or, or_false, reduceCtorEq, false_and, and_false, and_self, or_self, false_implies, true_implies, not_true_eq_false, not_false_eq_true, implies_true, Option.some.injEq, i_add, i_a1, i_m8, i_m5, i_m401, i_40, i_80, i_r40, i_s1, i_am1, i_sub, i_lt, i_le, i_eq, i_m1, il_le_0, il_ge_0, il_lt_0, il_gt_0, il_eq_0, il_le_1, il_ge_1, il_lt_1, il_gt_1, il_eq_1, il_le_2, il_ge_2, il_lt_2, il_gt_2, il_eq_2, il_le_3, il_ge_3, il_lt_3, il_gt_3, il_eq_3, il_le_4, il_ge_4, il_lt_4, il_gt_4, il_eq_4, il_le_5, il_ge_5, il_lt_5, il_gt_5, il_eq_5, il_le_6, il_ge_6, il_lt_6, il_gt_6, il_eq_6, il_le_7, il_ge_7, il_lt_7, il_gt_7, il_eq_7, il_le_8, il_ge_8, il_lt_8, il_gt_8, il_eq_8, il_le_12, il_ge_12, il_lt_12, il_gt_12, il_eq_12, il_le_16, il_ge_16, il_lt_16, il_gt_16, il_eq_16, il_le_20, il_ge_20, il_lt_20, il_gt_20, il_eq_20, il_le_21, il_ge_21, il_lt_21, il_gt_21, il_eq_21, il_le_40, il_ge_40, il_lt_40, il_gt_40, il_eq_40, il_le_100, il_ge_100, il_lt_100, il_gt_100, il_eq_100, il_le_120, il_ge_120, il_lt_120, il_gt_120, il_eq_120, il_le_200, il_ge_200, il_lt_200, il_gt_200, il_eq_200, il_le_400, il_ge_400, il_lt_400, il_gt_400, il_eq_400, il_le_700, il_ge_700, il_lt_700, il_gt_700, il_eq_700, kg12, kv12_7, ki4, kg2, kv2_11, kv2_6, ki7, kv12_0, ki8, kg7, kv7_9, kw7_9, k_rs, k_rn, k_r2, k_c2, kw2_6, up_s, up_n]
        refine h_isActOf hg ty td ?_
        simp (decide := true) (disch := first | assumption | omega) only [↓u136_0, ↓u136_103, ↓x_nil, ↓x_om, ↓x_iconst_0, ↓x_istore_3, x_cl_i, x_cl_r, x_cl_n, x_cl_q, x_cl_0, x_cl_l, ↓x_aload_0r, ↓x_aload_0n, ↓x_aload_0q, ↓x_getfield, ft_12_44, ↓x_invokevirtual, mt_12_176, x_ps0, x_ps1, x_l40, x_l41, x_l42, x_l43, x_l44, ↓x_cv0, ↓x_iconst_1, ↓x_isub, ↓x_istore_4, ↓x_iload_4, ↓x_aload_1r, ↓x_aload_1n, ↓x_aload_1q, ft_12_381, ↓x_icmp_lt, ft_12_158, ↓x_iload_2, ↓x_icmp_le, mt_12_278, ↓x_cv1, ↓x_astore_5r, ↓x_astore_5n, ↓x_astore_5q, ↓x_aload_5r, ↓x_aload_5n, ↓x_aload_5q, ↓x_ifnull_n, ↓x_ifnull_r, ↓x_ifnull_q, mt_12_397, ↓x_if_eq, ft_12_12, mt_12_401, ↓x_putfield, ft_12_404, x_fit0, x_fit1, x_fit2r, x_fit2n, x_fit2q, mt_12_407, mt_12_106, ↓x_dup_i, ↓x_dup_r, ↓x_dup_n, ↓x_iinc_3_1, ↓x_iinc_4_m1, ↓x_goto, ↓x_iload_3, ↓x_ireturn, rt136, Int.reduceAdd, Nat.reduceAdd, true_and, and_true, true_or, or_true, false_or, or_false, reduceCtorEq, false_and, and_false, and_self, or_self, false_implies, true_implies, not_true_eq_false, not_false_eq_true, implies_true, Option.some.injEq, i_add, i_a1, i_m8, i_m5, i_m401, i_40, i_80, i_r40, i_s1, i_am1, i_sub, i_lt, i_le, i_eq, i_m1, il_le_0, il_ge_0, il_lt_0, il_gt_0, il_eq_0, il_le_1, il_ge_1, il_lt_1, il_gt_1, il_eq_1, il_le_2, il_ge_2, il_lt_2, il_gt_2, il_eq_2, il_le_3, il_ge_3, il_lt_3, il_gt_3, il_eq_3, il_le_4, il_ge_4, il_lt_4, il_gt_4, il_eq_4, il_le_5, il_ge_5, il_lt_5, il_gt_5, il_eq_5, il_le_6, il_ge_6, il_lt_6, il_gt_6, il_eq_6, il_le_7, il_ge_7, il_lt_7, il_gt_7, il_eq_7, il_le_8, il_ge_8, il_lt_8, il_gt_8, il_eq_8, il_le_12, il_ge_12, il_lt_12, il_gt_12, il_eq_12, il_le_16, il_ge_16, il_lt_16, il_gt_16, il_eq_16, il_le_20, il_ge_20, il_lt_20, il_gt_20, il_eq_20, il_le_21, il_ge_21, il_lt_21, il_gt_21, il_eq_21, il_le_40, il_ge_40, il_lt_40, il_gt_40, il_eq_40, il_le_100, il_ge_100, il_lt_100, il_gt_100, il_eq_100, il_le_120, il_ge_120, il_lt_120, il_gt_120, il_eq_120, il_le_200, il_ge_200, il_lt_200, il_gt_200, il_eq_200, il_le_400, il_ge_400, il_lt_400, il_gt_400, il_eq_400, il_le_700, il_ge_700, il_lt_700, il_gt_700, il_eq_700, kg12, kv12_7, ki4, kg2, kv2_11, kv2_6, ki7, kv12_0, ki8, kg7, kv7_9, kw7_9, k_rs, k_rn, k_r2, k_c2, kw2_6, up_s, up_n]
        refine c_bool (fun c => ?_) (fun c => ?_)
        · unfold k_actO at c
          simp only [Bool.and_eq_true, beq_iff_eq] at c
          obtain ⟨⟨c1, c2⟩, c3⟩ := c
          rw [hrow.1] at c1
          rw [hrow.2.1, en] at c2
          obtain ⟨j, hj, ej⟩ := (hact c1 c2).mp c3
          have eik : ar S.2 i = k := by
            rw [hc] at hj hch
            rcases List.mem_cons.mp hj with e | e
            · rw [← e]; exact ej
            · have := (List.pairwise_cons.mp hch.2.2.2.2).1 j e
              omega
          obtain ⟨o, kk, ho, hkk, eo, ek, har, hh, hcy, _⟩ := act_of hR.2.1 h1 h2 hu hc
          have ha := hch.2.2.2.1 i memi
          rw [← eik] at hy
          refine h_revertS hg hR.1.1 hR.2.2.2.1 ty (fun z => ?_) ?_
          · unfold I_act at ha
            rw [eik] at ha
            rw [hrow.2.2.2.1, ← ha.2.2.2.2.2.2.1, ek] at z
            have z' : kk = 12 ∨ kk = 13 := by
              rcases z with z | z
              · exact Or.inl (by rw [show (12 : Int32) = nI 12 from rfl, i_eq (by omega) (by omega)] at z; exact z)
              · exact Or.inr (by rw [show (13 : Int32) = nI 13 from rfl, i_eq (by omega) (by omega)] at z; exact z)
            obtain ⟨q1, q2, q3⟩ := har.2.1 (by omega) (by omega)
            exact ⟨q1, q2, by rw [hrow.2.2.2.2.1, ← ha.2.2.2.2.2.2.2.1]; exact q3⟩
          simp (decide := true) (disch := first | assumption | omega) only [↓u136_0, ↓u136_103, ↓x_nil, ↓x_om, ↓x_iconst_0, ↓x_istore_3, x_cl_i, x_cl_r, x_cl_n, x_cl_q, x_cl_0, x_cl_l, ↓x_aload_0r, ↓x_aload_0n, ↓x_aload_0q, ↓x_getfield, ft_12_44, ↓x_invokevirtual, mt_12_176, x_ps0, x_ps1, x_l40, x_l41, x_l42, x_l43, x_l44, ↓x_cv0, ↓x_iconst_1, ↓x_isub, ↓x_istore_4, ↓x_iload_4, ↓x_aload_1r, ↓x_aload_1n, ↓x_aload_1q, ft_12_381, ↓x_icmp_lt, ft_12_158, ↓x_iload_2, ↓x_icmp_le, mt_12_278, ↓x_cv1, ↓x_astore_5r, ↓x_astore_5n, ↓x_astore_5q, ↓x_aload_5r, ↓x_aload_5n, ↓x_aload_5q, ↓x_ifnull_n, ↓x_ifnull_r, ↓x_ifnull_q, mt_12_397, ↓x_if_eq, ft_12_12, mt_12_401, ↓x_putfield, ft_12_404, x_fit0, x_fit1, x_fit2r, x_fit2n, x_fit2q, mt_12_407, mt_12_106, ↓x_dup_i, ↓x_dup_r, ↓x_dup_n, ↓x_iinc_3_1, ↓x_iinc_4_m1, ↓x_goto, ↓x_iload_3, ↓x_ireturn, rt136, Int.reduceAdd, Nat.reduceAdd, true_and, and_true, true_or, or_true, false_or, or_false, reduceCtorEq, false_and, and_false, and_self, or_self, false_implies, true_implies, not_true_eq_false, not_false_eq_true, implies_true, Option.some.injEq, i_add, i_a1, i_m8, i_m5, i_m401, i_40, i_80, i_r40, i_s1, i_am1, i_sub, i_lt, i_le, i_eq, i_m1, il_le_0, il_ge_0, il_lt_0, il_gt_0, il_eq_0, il_le_1, il_ge_1, il_lt_1, il_gt_1, il_eq_1, il_le_2, il_ge_2, il_lt_2, il_gt_2, il_eq_2, il_le_3, il_ge_3, il_lt_3, il_gt_3, il_eq_3, il_le_4, il_ge_4, il_lt_4, il_gt_4, il_eq_4, il_le_5, il_ge_5, il_lt_5, il_gt_5, il_eq_5, il_le_6, il_ge_6, il_lt_6, il_gt_6, il_eq_6, il_le_7, il_ge_7, il_lt_7, il_gt_7, il_eq_7, il_le_8, il_ge_8, il_lt_8, il_gt_8, il_eq_8, il_le_12, il_ge_12, il_lt_12, il_gt_12, il_eq_12, il_le_16, il_ge_16, il_lt_16, il_gt_16, il_eq_16, il_le_20, il_ge_20, il_lt_20, il_gt_20, il_eq_20, il_le_21, il_ge_21, il_lt_21, il_gt_21, il_eq_21, il_le_40, il_ge_40, il_lt_40, il_gt_40, il_eq_40, il_le_100, il_ge_100, il_lt_100, il_gt_100, il_eq_100, il_le_120, il_ge_120, il_lt_120, il_gt_120, il_eq_120, il_le_200, il_ge_200, il_lt_200, il_gt_200, il_eq_200, il_le_400, il_ge_400, il_lt_400, il_gt_400, il_eq_400, il_le_700, il_ge_700, il_lt_700, il_gt_700, il_eq_700, kg12, kv12_7, ki4, kg2, kv2_11, kv2_6, ki7, kv12_0, ki8, kg7, kv7_9, kw7_9, k_rs, k_rn, k_r2, k_c2, kw2_6, up_s, up_n]
          refine h_contrary hg (n := r.1) (s := r.2) ty (hR.1.2.2.1 r.1 (Nat.le_refl _)).1 ?_
          have w1 : k_W N (k_zt Z r.1 8) U := hR.1.1.leaf (hR.1.2.2.1 r.1 (Nat.le_refl _)).1 (by omega)
          have dlt : d < r.1 := hR.1.lt (by rw [td]; decide)
          have b0 : (k_zt Z r.1 8).1 own = 13 := by rw [k_ztn (by have := hR.1.lt (a := own) (by rw [hR.1.2.1]; decide); omega)]; exact hR.1.2.1
          have b8 : (k_zt Z r.1 8).1 (own + 17) = 5 := by rw [k_ztn (by have := hR.1.lt (a := own + 17) (by rw [a8]; decide); omega)]; exact a8
          have bm : (k_zt Z r.1 8).1 r.1 = 8 := k_zts
          have bd : (k_zt Z r.1 8).1 d = 3 := by rw [k_ztn (by omega)]; exact td
          simp (decide := true) (disch := first | assumption | omega) only [↓u136_0, ↓u136_103, ↓x_nil, ↓x_om, ↓x_iconst_0, ↓x_istore_3, x_cl_i, x_cl_r, x_cl_n, x_cl_q, x_cl_0, x_cl_l, ↓x_aload_0r, ↓x_aload_0n, ↓x_aload_0q, ↓x_getfield, ft_12_44, ↓x_invokevirtual, mt_12_176, x_ps0, x_ps1, x_l40, x_l41, x_l42, x_l43, x_l44, ↓x_cv0, ↓x_iconst_1, ↓x_isub, ↓x_istore_4, ↓x_iload_4, ↓x_aload_1r, ↓x_aload_1n, ↓x_aload_1q, ft_12_381, ↓x_icmp_lt, ft_12_158, ↓x_iload_2, ↓x_icmp_le, mt_12_278, ↓x_cv1, ↓x_astore_5r, ↓x_astore_5n, ↓x_astore_5q, ↓x_aload_5r, ↓x_aload_5n, ↓x_aload_5q, ↓x_ifnull_n, ↓x_ifnull_r, ↓x_ifnull_q, mt_12_397, ↓x_if_eq, ft_12_12, mt_12_401, ↓x_putfield, ft_12_404, x_fit0, x_fit1, x_fit2r, x_fit2n, x_fit2q, mt_12_407, mt_12_106, ↓x_dup_i, ↓x_dup_r, ↓x_dup_n, ↓x_iinc_3_1, ↓x_iinc_4_m1, ↓x_goto, ↓x_iload_3, ↓x_ireturn, rt136, Int.reduceAdd, Nat.reduceAdd, true_and, and_true, true_or, or_true, false_or, or_false, reduceCtorEq, false_and, and_false, and_self, or_self, false_implies, true_implies, not_true_eq_false, not_false_eq_true, implies_true, Option.some.injEq, i_add, i_a1, i_m8, i_m5, i_m401, i_40, i_80, i_r40, i_s1, i_am1, i_sub, i_lt, i_le, i_eq, i_m1, il_le_0, il_ge_0, il_lt_0, il_gt_0, il_eq_0, il_le_1, il_ge_1, il_lt_1, il_gt_1, il_eq_1, il_le_2, il_ge_2, il_lt_2, il_gt_2, il_eq_2, il_le_3, il_ge_3, il_lt_3, il_gt_3, il_eq_3, il_le_4, il_ge_4, il_lt_4, il_gt_4, il_eq_4, il_le_5, il_ge_5, il_lt_5, il_gt_5, il_eq_5, il_le_6, il_ge_6, il_lt_6, il_gt_6, il_eq_6, il_le_7, il_ge_7, il_lt_7, il_gt_7, il_eq_7, il_le_8, il_ge_8, il_lt_8, il_gt_8, il_eq_8, il_le_12, il_ge_12, il_lt_12, il_gt_12, il_eq_12, il_le_16, il_ge_16, il_lt_16, il_gt_16, il_eq_16, il_le_20, il_ge_20, il_lt_20, il_gt_20, il_eq_20, il_le_21, il_ge_21, il_lt_21, il_gt_21, il_eq_21, il_le_40, il_ge_40, il_lt_40, il_gt_40, il_eq_40, il_le_100, il_ge_100, il_lt_100, il_gt_100, il_eq_100, il_le_120, il_ge_120, il_lt_120, il_gt_120, il_eq_120, il_le_200, il_ge_200, il_lt_200, il_gt_200, il_eq_200, il_le_400, il_ge_400, il_lt_400, il_gt_400, il_eq_400, il_le_700, il_ge_700, il_lt_700, il_gt_700, il_eq_700, kg12, kv12_7, ki4, kg2, kv2_11, kv2_6, ki7, kv12_0, ki8, kg7, kv7_9, kw7_9, k_rs, k_rn, k_r2, k_c2, kw2_6, up_s, up_n]
          refine h_append hg hA w1 b8 bm (by rw [show own + 17 + 1 = own + 18 from rfl, lenL]; omega) (fun C' r' hr => ?_)
          have bd' : (k_zc (k_zt Z r.1 8) C').1 d = 3 := bd
          have eacts : ∀ (F : Nat → Int32), (k_set1 (k_wr (k_revS P U (own + 1) n y) 149 y 1) r.1 F).1 46 d = nI (left + (rem + 1)) := fun F => by
            rw [k_s1n (by omega), k_rn (by decide), krvS_1 (by decide)]; exact ea
          simp (decide := true) (disch := first | assumption | omega) only [↓u136_0, ↓u136_103, ↓x_nil, ↓x_om, ↓x_iconst_0, ↓x_istore_3, x_cl_i, x_cl_r, x_cl_n, x_cl_q, x_cl_0, x_cl_l, ↓x_aload_0r, ↓x_aload_0n, ↓x_aload_0q, ↓x_getfield, ft_12_44, ↓x_invokevirtual, mt_12_176, x_ps0, x_ps1, x_l40, x_l41, x_l42, x_l43, x_l44, ↓x_cv0, ↓x_iconst_1, ↓x_isub, ↓x_istore_4, ↓x_iload_4, ↓x_aload_1r, ↓x_aload_1n, ↓x_aload_1q, ft_12_381, ↓x_icmp_lt, ft_12_158, ↓x_iload_2, ↓x_icmp_le, mt_12_278, ↓x_cv1, ↓x_astore_5r, ↓x_astore_5n, ↓x_astore_5q, ↓x_aload_5r, ↓x_aload_5n, ↓x_aload_5q, ↓x_ifnull_n, ↓x_ifnull_r, ↓x_ifnull_q, mt_12_397, ↓x_if_eq, ft_12_12, mt_12_401, ↓x_putfield, ft_12_404, x_fit0, x_fit1, x_fit2r, x_fit2n, x_fit2q, mt_12_407, mt_12_106, ↓x_dup_i, ↓x_dup_r, ↓x_dup_n, ↓x_iinc_3_1, ↓x_iinc_4_m1, ↓x_goto, ↓x_iload_3, ↓x_ireturn, rt136, Int.reduceAdd, Nat.reduceAdd, true_and, and_true, true_or, or_true, false_or, or_false, reduceCtorEq, false_and, and_false, and_self, or_self, false_implies, true_implies, not_true_eq_false, not_false_eq_true, implies_true, Option.some.injEq, i_add, i_a1, i_m8, i_m5, i_m401, i_40, i_80, i_r40, i_s1, i_am1, i_sub, i_lt, i_le, i_eq, i_m1, il_le_0, il_ge_0, il_lt_0, il_gt_0, il_eq_0, il_le_1, il_ge_1, il_lt_1, il_gt_1, il_eq_1, il_le_2, il_ge_2, il_lt_2, il_gt_2, il_eq_2, il_le_3, il_ge_3, il_lt_3, il_gt_3, il_eq_3, il_le_4, il_ge_4, il_lt_4, il_gt_4, il_eq_4, il_le_5, il_ge_5, il_lt_5, il_gt_5, il_eq_5, il_le_6, il_ge_6, il_lt_6, il_gt_6, il_eq_6, il_le_7, il_ge_7, il_lt_7, il_gt_7, il_eq_7, il_le_8, il_ge_8, il_lt_8, il_gt_8, il_eq_8, il_le_12, il_ge_12, il_lt_12, il_gt_12, il_eq_12, il_le_16, il_ge_16, il_lt_16, il_gt_16, il_eq_16, il_le_20, il_ge_20, il_lt_20, il_gt_20, il_eq_20, il_le_21, il_ge_21, il_lt_21, il_gt_21, il_eq_21, il_le_40, il_ge_40, il_lt_40, il_gt_40, il_eq_40, il_le_100, il_ge_100, il_lt_100, il_gt_100, il_eq_100, il_le_120, il_ge_120, il_lt_120, il_gt_120, il_eq_120, il_le_200, il_ge_200, il_lt_200, il_gt_200, il_eq_200, il_le_400, il_ge_400, il_lt_400, il_gt_400, il_eq_400, il_le_700, il_ge_700, il_lt_700, il_gt_700, il_eq_700, eacts, kg12, kv12_7, ki4, kg2, kv2_11, kv2_6, ki7, kv12_0, ki8, kg7, kv7_9, kw7_9, k_rs, k_rn, k_r2, k_c2, kw2_6, up_s, up_n]
          have kr : ∀ f, f ≠ 223 → f ≠ 149 → (k_wr (k_revS P U (own + 1) n y) 149 y 1).1 f y = P.1 f y := fun f h3 h4 => by rw [k_rn h4, krvS_1 h3]
          have D := D_u1 (d := d) (left := left) (rem := rem) (s' := 0) (C' := C') (r' := r') (v := nI (left + (rem + 1) - 1)) hb hR h1 h2 hu hc (by omega) hy td ea hr (by rw [show left + (rem + 1) - 1 = left + rem by omega]) (kr 141 (by decide) (by decide)) (kr 142 (by decide) (by decide)) (kr 143 (by decide) (by decide)) (kr 144 (by decide) (by decide)) (kr 145 (by decide) (by decide)) (kr 146 (by decide) (by decide)) (by rw [eik])
          obtain ⟨D1, D2, D3, D4⟩ := D
          have ace : ∀ j, ar (y_tb1 t S).2 j = ar S.2 j := fun j => by unfold ar; rw [ytb_A (by decide)]
          rw [hc] at hl hch
          have nX : ∀ f, f ≠ 223 → f ≠ 149 → f ≠ 46 → ¬ X_u U own n d f d := fun f z1 z2 z3 z => by
            rcases z with z | z | z
            · exact z1 z.1
            · exact z2 z
            · exact z3 z.1
          refine n97 _ _ _ _ _ (ih rem (gone + 1) (nr + 1) (up1 ch t l') _ _ _ _ (y_tb1 t S) _ _ D2 ?_ bd' ((D3.2.1 _ d dlt (nX _ (by decide) (by decide) (by decide))).trans en) ?_ ((D3.2.1 _ d dlt (nX _ (by decide) (by decide) (by decide))).trans ef) (fun j hj => ?_) ?_ (by omega) (Int32.sub_eq_add_neg _ _).symm (by omega) (fun j hj => ?_) (fun Z' P' U' r'' hD => ?_))
          · unfold undw at hu ⊢; rw [ytb_A (by decide)]; exact hu
          · rw [k_rs, show left + (rem + 1) - 1 = left + rem by omega]
          · rw [up1_s] at hj; rw [ace]; exact hf j (by rw [hc]; exact List.mem_cons_of_mem _ hj)
          · rw [up1_s]; simp only [List.length_cons] at hl; omega
          · rw [up1_s] at hj; rw [ace, ← eik]; exact (List.pairwise_cons.mp hch.2.2.2.2).1 j hj
          · rw [show gone + 1 + rem = gone + (rem + 1) by omega]
            obtain ⟨v1, v2, v3, v4, v5⟩ := hD
            refine q Z' P' U' r'' ⟨?_, ⟨D1, v2⟩, D3.tr v3 (by have := hr.1; simp only at this; omega), v4, ?_⟩
            · rw [up1_s, up1_up1, show nr + 1 + rem = nr + (rem + 1) by omega] at v1
              rw [hc, List.drop_succ_cons]
              exact v1
            · exact (D4.tr v5).le (by omega) (by omega)
        · refine n97 _ _ _ _ _ (ih (rem + 1) gone nr ch Z P U r S _ _ hR hu td en ea ef hf hl hn (Int32.sub_eq_add_neg _ _).symm (by omega) (fun j hj => ?_) q)
          have h3 := hlt j hj
          by_cases c4 : ar S.2 j = k
          · have ha := hch.2.2.2.1 j hj
            unfold I_act at ha
            rw [c4] at ha
            have c3 := (hact ha.2.2.2.1 ha.2.2.2.2.1).mpr ⟨j, hj, c4⟩
            have : k_actO P y d = true := by
              unfold k_actO
              rw [hrow.1, ha.2.2.2.1, hrow.2.1, ha.2.2.2.2.1, en, c3]
              simp
            rw [this] at c
            cases c
          · omega
  obtain ⟨a1, a2, a3, a4, a5, a6, a7, a8, a9, a10⟩ := hR.1.1.hse hR.1.2.1
  have tO := hR.1.2.1
  have hch := hR.2.1.2.2.2.2.2.2.1 t h1 h2 (Or.inl hu)
  refine e_call (cd := cd136) hg ok136 (by rw [mL136]; exact Nat.le_of_ble_eq_true rfl) ?_
  rw [mL136]
  simp only [x_ini, x_inr, x_inn, x_inq, x_inl, x_in0, x_rp0, x_rps, Nat.reduceSub]
  simp (decide := true) (disch := first | assumption | omega) only [↓u136_0, ↓u136_103, ↓x_nil, ↓x_om, ↓x_iconst_0, ↓x_istore_3, x_cl_i, x_cl_r, x_cl_n, x_cl_q, x_cl_0, x_cl_l, ↓x_aload_0r, ↓x_aload_0n, ↓x_aload_0q, ↓x_getfield, ft_12_44, ↓x_invokevirtual, mt_12_176, x_ps0, x_ps1, x_l40, x_l41, x_l42, x_l43, x_l44, ↓x_cv0, ↓x_iconst_1, ↓x_isub, ↓x_istore_4, ↓x_iload_4, ↓x_aload_1r, ↓x_aload_1n, ↓x_aload_1q, ft_12_381, ↓x_icmp_lt, ft_12_158, ↓x_iload_2, ↓x_icmp_le, mt_12_278, ↓x_cv1, ↓x_astore_5r, ↓x_astore_5n, ↓x_astore_5q, ↓x_aload_5r, ↓x_aload_5n, ↓x_aload_5q, ↓x_ifnull_n, ↓x_ifnull_r, ↓x_ifnull_q, mt_12_397, ↓x_if_eq, ft_12_12, mt_12_401, ↓x_putfield, ft_12_404, x_fit0, x_fit1, x_fit2r, x_fit2n, x_fit2q, mt_12_407, mt_12_106, ↓x_dup_i, ↓x_dup_r, ↓x_dup_n, ↓x_iinc_3_1, ↓x_iinc_4_m1, ↓x_goto, ↓x_iload_3, ↓x_ireturn, rt136, Int.reduceAdd, Nat.reduceAdd, true_and, and_true, true_or, or_true, false_or, or_false, reduceCtorEq, false_and, and_false, and_self, or_self, false_implies, true_implies, not_true_eq_false, not_false_eq_true, implies_true, Option.some.injEq, kg12, kv12_7, ki4, kg2, kv2_11, kv2_6, ki7, kv12_0, ki8, kg7, kv7_9, kw7_9, k_rs, k_rn, k_r2, k_c2, kw2_6, up_s, up_n]
  refine h_logSize hg hA hR.1.1 a8 ?_
  rw [show own + 17 + 1 = own + 18 from rfl, hR.2.2.1.1]
  simp (decide := true) (disch := first | assumption | omega) only [↓u136_0, ↓u136_103, ↓x_nil, ↓x_om, ↓x_iconst_0, ↓x_istore_3, x_cl_i, x_cl_r, x_cl_n, x_cl_q, x_cl_0, x_cl_l, ↓x_aload_0r, ↓x_aload_0n, ↓x_aload_0q, ↓x_getfield, ft_12_44, ↓x_invokevirtual, mt_12_176, x_ps0, x_ps1, x_l40, x_l41, x_l42, x_l43, x_l44, ↓x_cv0, ↓x_iconst_1, ↓x_isub, ↓x_istore_4, ↓x_iload_4, ↓x_aload_1r, ↓x_aload_1n, ↓x_aload_1q, ft_12_381, ↓x_icmp_lt, ft_12_158, ↓x_iload_2, ↓x_icmp_le, mt_12_278, ↓x_cv1, ↓x_astore_5r, ↓x_astore_5n, ↓x_astore_5q, ↓x_aload_5r, ↓x_aload_5n, ↓x_aload_5q, ↓x_ifnull_n, ↓x_ifnull_r, ↓x_ifnull_q, mt_12_397, ↓x_if_eq, ft_12_12, mt_12_401, ↓x_putfield, ft_12_404, x_fit0, x_fit1, x_fit2r, x_fit2n, x_fit2q, mt_12_407, mt_12_106, ↓x_dup_i, ↓x_dup_r, ↓x_dup_n, ↓x_iinc_3_1, ↓x_iinc_4_m1, ↓x_goto, ↓x_iload_3, ↓x_ireturn, rt136, Int.reduceAdd, Nat.reduceAdd, true_and, and_true, true_or, or_true, false_or, or_false, reduceCtorEq, false_and, and_false, and_self, or_self, false_implies, true_implies, not_true_eq_false, not_false_eq_true, implies_true, Option.some.injEq, kg12, kv12_7, ki4, kg2, kv2_11, kv2_6, ki7, kv12_0, ki8, kg7, kv7_9, kw7_9, k_rs, k_rn, k_r2, k_c2, kw2_6, up_s, up_n]
  exact loop nr rem 0 nr ch Z P U r S _ _ hR hu td en ea ef hf hl hn rfl (Nat.le_refl _) (fun j hj => (hch.2.2.2.1 j hj).2.2.1) (fun Z' P' U' r' hD => by rw [Nat.zero_add]; exact q Z' P' U' r' hD)
end RN
