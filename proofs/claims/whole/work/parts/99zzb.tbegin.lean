/-! begin, retry -/
section UE
variable {g : e_G} {own : Nat} {r0 : Nat × Nat}
theorem t_begin (hg : e_GK g) (hA : e_AK g) {x : Int32} : TW g own r0 90 185 [.int x] := by
  intro c Z P U r S B Ψ hc hV q
  have hV0 := hV
  obtain ⟨N, n, b, l, nl, nw, nr, na, ne, ch, T, hI, hK, hR⟩ := hV
  have tO := hK.1.2.1
  have nrl : nr ≤ 1024 := by have := hI.2.2.2.2.2.2.1.1; have := hI.2.2.2.2.2.2.1.2.1; have := hI.2.2.2.2.2.2.1.2.2.1; omega
  have hb := hI.2.1.2.1
  have hl := hI.2.1.2.2.2.2.1
  have b4 := hI.2.1.1
  have l4 := hI.2.1.2.2.2.2.2.1
  refine e_call (cd := cd90) hg ok90 (by rw [mL90]; exact Nat.le_of_ble_eq_true rfl) ?_
  rw [mL90]
  simp only [x_ini, x_inr, x_inn, x_inq, x_inl, x_in0, x_rp0, x_rps, Nat.reduceSub]
  simp (decide := true) (disch := first | assumption | omega) only [↓u90_0, ↓x_nil, ↓x_om, ↓x_aload_0r, ↓x_aload_0n, ↓x_aload_0q, ↓x_iload_1, ↓x_iconst_0, ↓x_invokevirtual, mt_12_117, x_ps0, x_ps1, x_l40, x_l41, x_l42, x_l43, x_l44, ↓x_cv2, ↓x_ireturn, rt90, Int.reduceAdd, Nat.reduceAdd, true_and, and_true, true_or, or_true, false_or, or_false, reduceCtorEq, false_and, and_false, and_self, or_self, false_implies, true_implies, not_true_eq_false, not_false_eq_true, implies_true, Option.some.injEq, ki12, up_s, up_n]
  refine s_start hg hA hc hV0 hb b4 hl l4 (fun Z' P' U' r' hV' => ?_)
  simp (decide := true) (disch := first | assumption | omega) only [↓u90_0, ↓x_nil, ↓x_om, ↓x_aload_0r, ↓x_aload_0n, ↓x_aload_0q, ↓x_iload_1, ↓x_iconst_0, ↓x_invokevirtual, mt_12_117, x_ps0, x_ps1, x_l40, x_l41, x_l42, x_l43, x_l44, ↓x_cv2, ↓x_ireturn, rt90, Int.reduceAdd, Nat.reduceAdd, true_and, and_true, true_or, or_true, false_or, or_false, reduceCtorEq, false_and, and_false, and_self, or_self, false_implies, true_implies, not_true_eq_false, not_false_eq_true, implies_true, Option.some.injEq, ki12, up_s, up_n]
  exact q _ Z' P' U' r' _ hV' (fun M h Φ hq => c_begin hg b4 l4 hb hl (by rw [hI.1.1]; exact vp_in_nI (by omega) (by decide)) hq)
theorem t_retry (hg : e_GK g) (hA : e_AK g) {t : Int32} : TW g own r0 98 186 [.int t] := by
  intro c Z P U r S B Ψ hc hV q
  have hV0 := hV
  obtain ⟨N, n, b, l, nl, nw, nr, na, ne, ch, T, hI, hK, hR⟩ := hV
  have tO := hK.1.2.1
  have kDe := hK.2.2.2.2.1
  have nrl : nr ≤ 1024 := by have := hI.2.2.2.2.2.2.1.1; have := hI.2.2.2.2.2.2.1.2.1; have := hI.2.2.2.2.2.2.1.2.2.1; omega
  have hb := hI.2.1.2.1
  have hl := hI.2.1.2.2.2.2.1
  have b4 := hI.2.1.1
  have l4 := hI.2.1.2.2.2.2.2.1
  have fin : ∀ S' y, y_retry t b l S = (y, S') → ∀ Z' P' U' r', V own (c + 1) r0 Z' P' U' r' S' → Ψ (some (.int y)) (K_H Z' P' U' (B, r')) := fun S' y e Z' P' U' r' hV' => q y Z' P' U' r' S' hV' (fun M h Φ hq => c_retry hg b4 l4 hb hl (by rw [hI.1.1]; exact vp_in_nI (by omega) (by decide)) (by rw [show ((S.1, S.2) : m_S) = S from rfl, e]; exact hq))
  refine e_call (cd := cd98) hg ok98 (by rw [mL98]; exact Nat.le_of_ble_eq_true rfl) ?_
  rw [mL98]
  simp only [x_ini, x_inr, x_inn, x_inq, x_inl, x_in0, x_rp0, x_rps, Nat.reduceSub]
  simp (decide := true) (disch := first | assumption | omega) only [↓u98_0, ↓u98_12, ↓u98_36, ↓u98_39, ↓x_nil, ↓x_om, ↓x_aload_0r, ↓x_aload_0n, ↓x_aload_0q, ↓x_iload_1, ↓x_invokevirtual, mt_12_121, x_ps0, x_ps1, x_l40, x_l41, x_l42, x_l43, x_l44, ↓x_cv1, ↓x_astore_2r, ↓x_astore_2n, ↓x_astore_2q, x_cl_i, x_cl_r, x_cl_n, x_cl_q, x_cl_0, x_cl_l, ↓x_aload_2r, ↓x_aload_2n, ↓x_aload_2q, ↓x_ifnonnull_n, ↓x_ifnonnull_r, ↓x_ifnonnull_q, ↓x_iconst_m1, ↓x_ireturn, rt98, ↓x_getfield, ft_12_125, ↓x_iconst_4, ↓x_icmp_ne, ft_12_194, ↓x_iconst_1, ↓x_icmp_eq, ↓x_iconst_2, ↓x_bipush_m2, ft_12_197, ft_12_200, ↓x_iadd, mt_12_117, ↓x_cv2, Int.reduceAdd, Nat.reduceAdd, true_and, and_true, true_or, or_true, false_or, or_false, reduceCtorEq, false_and, and_false, and_self, or_self, false_implies, true_implies, not_true_eq_false, not_false_eq_true, implies_true, Option.some.injEq, ki12, kg2, kv2_3, kv2_4, kv2_1, kv2_2, up_s, up_n]
  refine h_dealOf hg hA hK.1.1 tO (by rw [kDe.1]; omega) ?_
  rcases dO_ok kDe.1 b4 t with ⟨e, hi⟩ | ⟨j, j1, j2, et, e, hi⟩
  · rw [e, k_rfn]
    simp (decide := true) (disch := first | assumption | omega) only [↓u98_0, ↓u98_12, ↓u98_36, ↓u98_39, ↓x_nil, ↓x_om, ↓x_aload_0r, ↓x_aload_0n, ↓x_aload_0q, ↓x_iload_1, ↓x_invokevirtual, mt_12_121, x_ps0, x_ps1, x_l40, x_l41, x_l42, x_l43, x_l44, ↓x_cv1, ↓x_astore_2r, ↓x_astore_2n, ↓x_astore_2q, x_cl_i, x_cl_r, x_cl_n, x_cl_q, x_cl_0, x_cl_l, ↓x_aload_2r, ↓x_aload_2n, ↓x_aload_2q, ↓x_ifnonnull_n, ↓x_ifnonnull_r, ↓x_ifnonnull_q, ↓x_iconst_m1, ↓x_ireturn, rt98, ↓x_getfield, ft_12_125, ↓x_iconst_4, ↓x_icmp_ne, ft_12_194, ↓x_iconst_1, ↓x_icmp_eq, ↓x_iconst_2, ↓x_bipush_m2, ft_12_197, ft_12_200, ↓x_iadd, mt_12_117, ↓x_cv2, Int.reduceAdd, Nat.reduceAdd, true_and, and_true, true_or, or_true, false_or, or_false, reduceCtorEq, false_and, and_false, and_self, or_self, false_implies, true_implies, not_true_eq_false, not_false_eq_true, implies_true, Option.some.injEq, ki12, kg2, kv2_3, kv2_4, kv2_1, kv2_2, up_s, up_n]
    exact fin S (-1) (by unfold y_retry; rw [hb, hi, if_neg (by decide)]) Z P U r (hV0.next hc)
  · have td := (dl_t hK.1 kDe.1 j1 j2).1
    have dd := kDe.2.2.1 j j1 j2
    have e1 := dd.2.2.2.1
    have e2 := dd.2.2.2.2.1
    have e3 := dd.2.1
    have e4 := dd.2.2.1
    have yn : y_retry t b l S = if S.2 47 j = 4 ∧ (S.2 48 j = 1 ∨ S.2 48 j = 2) then y_comes (S.2 49 j) (S.2 50 j + 1) b l S else (-2, S) := by
      unfold y_retry
      rw [hb, hi, if_pos rfl, et, i_cl (by omega)]
    have no : ¬ (S.2 47 j = 4 ∧ (S.2 48 j = 1 ∨ S.2 48 j = 2)) → Ψ (some (.int (-2))) (K_H Z P U (B, r)) := fun z => fin S (-2) (by rw [yn, if_neg z]) Z P U r (hV0.next hc)
    have yes : S.2 47 j = 4 → (S.2 48 j = 1 ∨ S.2 48 j = 2) → ∀ Z' P' U' r', V own (c + 1) r0 Z' P' U' r' (y_comes (S.2 49 j) (S.2 50 j + 1) b l S).2 → Ψ (some (.int (y_comes (S.2 49 j) (S.2 50 j + 1) b l S).1)) (K_H Z' P' U' (B, r')) := fun z1 z2 Z' P' U' r' hV' => fin _ _ (by rw [yn, if_pos ⟨z1, z2⟩]) Z' P' U' r' hV'
    rw [e, k_rfs]
    simp (decide := true) (disch := first | assumption | omega) only [↓u98_0, ↓u98_12, ↓u98_36, ↓u98_39, ↓x_nil, ↓x_om, ↓x_aload_0r, ↓x_aload_0n, ↓x_aload_0q, ↓x_iload_1, ↓x_invokevirtual, mt_12_121, x_ps0, x_ps1, x_l40, x_l41, x_l42, x_l43, x_l44, ↓x_cv1, ↓x_astore_2r, ↓x_astore_2n, ↓x_astore_2q, x_cl_i, x_cl_r, x_cl_n, x_cl_q, x_cl_0, x_cl_l, ↓x_aload_2r, ↓x_aload_2n, ↓x_aload_2q, ↓x_ifnonnull_n, ↓x_ifnonnull_r, ↓x_ifnonnull_q, ↓x_iconst_m1, ↓x_ireturn, rt98, ↓x_getfield, ft_12_125, ↓x_iconst_4, ↓x_icmp_ne, ft_12_194, ↓x_iconst_1, ↓x_icmp_eq, ↓x_iconst_2, ↓x_bipush_m2, ft_12_197, ft_12_200, ↓x_iadd, mt_12_117, ↓x_cv2, Int.reduceAdd, Nat.reduceAdd, true_and, and_true, true_or, or_true, false_or, or_false, reduceCtorEq, false_and, and_false, and_self, or_self, false_implies, true_implies, not_true_eq_false, not_false_eq_true, implies_true, Option.some.injEq, e1, e2, e3, e4, ki12, kg2, kv2_3, kv2_4, kv2_1, kv2_2, up_s, up_n]
    repeat' (first | refine And.intro ?_ ?_ | intro _)
    all_goals first
      | exact no (fun z => by rcases z with ⟨z1, z2 | z2⟩ <;> contradiction)
      | (refine s_start hg hA hc hV0 hb b4 hl l4 (fun Z' P' U' r' hV' => ?_)
         simp (decide := true) (disch := first | assumption | omega) only [↓u98_0, ↓u98_12, ↓u98_36, ↓u98_39, ↓x_nil, ↓x_om, ↓x_aload_0r, ↓x_aload_0n, ↓x_aload_0q, ↓x_iload_1, ↓x_invokevirtual, mt_12_121, x_ps0, x_ps1, x_l40, x_l41, x_l42, x_l43, x_l44, ↓x_cv1, ↓x_astore_2r, ↓x_astore_2n, ↓x_astore_2q, x_cl_i, x_cl_r, x_cl_n, x_cl_q, x_cl_0, x_cl_l, ↓x_aload_2r, ↓x_aload_2n, ↓x_aload_2q, ↓x_ifnonnull_n, ↓x_ifnonnull_r, ↓x_ifnonnull_q, ↓x_iconst_m1, ↓x_ireturn, rt98, ↓x_getfield, ft_12_125, ↓x_iconst_4, ↓x_icmp_ne, ft_12_194, ↓x_iconst_1, ↓x_icmp_eq, ↓x_iconst_2, ↓x_bipush_m2, ft_12_197, ft_12_200, ↓x_iadd, mt_12_117, ↓x_cv2, Int.reduceAdd, Nat.reduceAdd, true_and, and_true, true_or, or_true, false_or, or_false, reduceCtorEq, false_and, and_false, and_self, or_self, false_implies, true_implies, not_true_eq_false, not_false_eq_true, implies_true, Option.some.injEq, ki12, kg2, kv2_3, kv2_4, kv2_1, kv2_2, up_s, up_n]
         exact yes (by assumption) (by first | exact Or.inl (by assumption) | exact Or.inr (by assumption)) Z' P' U' r' hV')
end UE
