/-! questions -/
section TV
variable {g : e_G} {N own : Nat} {r0 : Nat × Nat} {kc km : Nat} {args : List Value}
theorem TWq (hm : ∀ c Z P U r S, c + 1 ≤ 512 → V own c r0 Z P U r S → ∃ a, (∀ (Ψ : e_Q) (B : Nat → Option e_Cl), Ψ (some (.int a)) (K_H Z P U (B, r)) → e_Sc g kc (.ref own :: args) (K_H Z P U (B, r)) Ψ) ∧ ∀ M h (Φ : e_Q), Φ (some (.int a)) (m_H M S.1 S.2 h) → e_Sc g km (.ref M :: args) (m_H M S.1 S.2 h) Φ) : TW g own r0 kc km args := by
  intro c Z P U r S B Ψ hc hV q
  obtain ⟨a, h1, h2⟩ := hm c Z P U r S hc hV
  exact h1 Ψ B (q a Z P U r S (hV.next hc) h2)
theorem t_save (hg : e_GK g) (hA : e_AK g) {t : Int32} : TW g own r0 94 194 [.int t] := by
  refine TWq (fun c Z P U r S hc hV => ?_)
  obtain ⟨N, n, b, l, nl, nw, nr, na, ne, ch, T, hI, hK, hR⟩ := hV
  have b400 := hI.2.1.1
  have tO := hK.1.2.1
  have kDe := hK.2.2.2.2.1
  have hb : S.1 44 = nI b := hI.2.1.2.1
  refine ⟨y_save t S, fun Ψ B q => ?_, fun M h Φ q => c_save hg b400 hb q⟩
  refine e_call (cd := cd94) hg ok94 (by rw [mL94]; exact Nat.le_of_ble_eq_true rfl) ?_
  rw [mL94]
  simp only [x_ini, x_inr, x_inn, x_inq, x_inl, x_in0, x_rp0, x_rps, Nat.reduceSub]
  simp (decide := true) (disch := first | assumption | omega) only [↓u94_0, ↓u94_12, ↓u94_27, ↓u94_29, ↓x_nil, ↓x_om, ↓x_aload_0r, ↓x_aload_0n, ↓x_aload_0q, ↓x_iload_1, ↓x_invokevirtual, mt_12_121, x_ps0, x_ps1, x_l40, x_l41, x_l42, x_l43, x_l44, ↓x_cv1, ↓x_astore_2r, ↓x_astore_2n, ↓x_astore_2q, x_cl_i, x_cl_r, x_cl_n, x_cl_q, x_cl_0, x_cl_l, ↓x_aload_2r, ↓x_aload_2n, ↓x_aload_2q, ↓x_ifnonnull_n, ↓x_ifnonnull_r, ↓x_ifnonnull_q, ↓x_iconst_m1, ↓x_ireturn, rt94, ↓x_getfield, ft_12_125, ↓x_iconst_1, ↓x_icmp_ne, ft_12_158, ↓x_goto, ↓x_bipush_m2, Int.reduceAdd, Nat.reduceAdd, true_and, and_true, true_or, or_true, false_or, or_false, reduceCtorEq, false_and, and_false, and_self, or_self, false_implies, true_implies, not_true_eq_false, not_false_eq_true, implies_true, Option.some.injEq, ki12, kg2, kv2_3, kv2_6, up_s, up_n]
  refine h_dealOf hg hA hK.1.1 tO (by rw [kDe.1]; omega) ?_
  rcases dO_ok kDe.1 b400 t with ⟨e, hi⟩ | ⟨j, j1, j2, et, e, hi⟩
  · rw [e, k_rfn]
    simp (decide := true) (disch := first | assumption | omega) only [↓u94_0, ↓u94_12, ↓u94_27, ↓u94_29, ↓x_nil, ↓x_om, ↓x_aload_0r, ↓x_aload_0n, ↓x_aload_0q, ↓x_iload_1, ↓x_invokevirtual, mt_12_121, x_ps0, x_ps1, x_l40, x_l41, x_l42, x_l43, x_l44, ↓x_cv1, ↓x_astore_2r, ↓x_astore_2n, ↓x_astore_2q, x_cl_i, x_cl_r, x_cl_n, x_cl_q, x_cl_0, x_cl_l, ↓x_aload_2r, ↓x_aload_2n, ↓x_aload_2q, ↓x_ifnonnull_n, ↓x_ifnonnull_r, ↓x_ifnonnull_q, ↓x_iconst_m1, ↓x_ireturn, rt94, ↓x_getfield, ft_12_125, ↓x_iconst_1, ↓x_icmp_ne, ft_12_158, ↓x_goto, ↓x_bipush_m2, Int.reduceAdd, Nat.reduceAdd, true_and, and_true, true_or, or_true, false_or, or_false, reduceCtorEq, false_and, and_false, and_self, or_self, false_implies, true_implies, not_true_eq_false, not_false_eq_true, implies_true, Option.some.injEq, ki12, kg2, kv2_3, kv2_6, up_s, up_n]
    refine b_q q ?_
    unfold y_save
    rw [hb, hi, if_neg (by decide)]
  · have td := (dl_t hK.1 kDe.1 j1 j2).1
    have d := kDe.2.2.1 j j1 j2
    have e1 := d.2.2.2.1
    have e2 := d.2.2.2.2.2.2.1
    rw [e, k_rfs]
    unfold y_save at q
    rw [hb, hi, if_pos rfl, et, i_cl (by omega)] at q
    simp (decide := true) (disch := first | assumption | omega) only [↓u94_0, ↓u94_12, ↓u94_27, ↓u94_29, ↓x_nil, ↓x_om, ↓x_aload_0r, ↓x_aload_0n, ↓x_aload_0q, ↓x_iload_1, ↓x_invokevirtual, mt_12_121, x_ps0, x_ps1, x_l40, x_l41, x_l42, x_l43, x_l44, ↓x_cv1, ↓x_astore_2r, ↓x_astore_2n, ↓x_astore_2q, x_cl_i, x_cl_r, x_cl_n, x_cl_q, x_cl_0, x_cl_l, ↓x_aload_2r, ↓x_aload_2n, ↓x_aload_2q, ↓x_ifnonnull_n, ↓x_ifnonnull_r, ↓x_ifnonnull_q, ↓x_iconst_m1, ↓x_ireturn, rt94, ↓x_getfield, ft_12_125, ↓x_iconst_1, ↓x_icmp_ne, ft_12_158, ↓x_goto, ↓x_bipush_m2, Int.reduceAdd, Nat.reduceAdd, true_and, and_true, true_or, or_true, false_or, or_false, reduceCtorEq, false_and, and_false, and_self, or_self, false_implies, true_implies, not_true_eq_false, not_false_eq_true, implies_true, Option.some.injEq, e1, e2, ki12, kg2, kv2_3, kv2_6, up_s, up_n]
    refine ⟨fun z => ?_, fun z => ?_⟩
    · rw [if_pos z] at q; exact q
    · rw [if_neg z] at q; exact q
theorem t_ring (hg : e_GK g) {i : Int32} : TW g own r0 103 222 [.int i] := by
  refine TWq (fun c Z P U r S hc hV => ?_)
  obtain ⟨N, n, b, l, nl, nw, nr, na, ne, ch, T, hI, hK, hR⟩ := hV
  have tO := hK.1.2.1
  have kMi := hK.2.2.2.2.2.2.2.2.2
  obtain ⟨m, hm, em⟩ := hI.2.2.2.2.2.1.2.2.2.2.2.2.2.1
  obtain ⟨a1, a2, a3, a4, a5, a6, a7, a8, a9, a10⟩ := hK.1.1.hse tO
  refine ⟨y_ring i S, fun Ψ B q => ?_, fun M h Φ q => c_ring hg hm em q⟩
  refine e_call (cd := cd103) hg ok103 (by rw [mL103]; exact Nat.le_of_ble_eq_true rfl) ?_
  rw [mL103]
  simp only [x_ini, x_inr, x_inn, x_inq, x_inl, x_in0, x_rp0, x_rps, Nat.reduceSub]
  simp (decide := true) (disch := first | assumption | omega) only [↓u103_0, ↓x_nil, ↓x_om, ↓x_aload_0r, ↓x_aload_0n, ↓x_aload_0q, ↓x_getfield, ft_12_51, ↓x_iload_1, ↓x_invokevirtual, mt_12_257, x_ps0, x_ps1, x_l40, x_l41, x_l42, x_l43, x_l44, ↓x_cv1, ↓x_ireturn, rt103, Int.reduceAdd, Nat.reduceAdd, true_and, and_true, true_or, or_true, false_or, or_false, reduceCtorEq, false_and, and_false, and_self, or_self, false_implies, true_implies, not_true_eq_false, not_false_eq_true, implies_true, Option.some.injEq, kg12, kv12_8, ki6, up_s, up_n]
  refine h_member hg a9 (hK.1.1.rng a9).2.2.2.2 ?_
  simp (decide := true) (disch := first | assumption | omega) only [↓u103_0, ↓x_nil, ↓x_om, ↓x_aload_0r, ↓x_aload_0n, ↓x_aload_0q, ↓x_getfield, ft_12_51, ↓x_iload_1, ↓x_invokevirtual, mt_12_257, x_ps0, x_ps1, x_l40, x_l41, x_l42, x_l43, x_l44, ↓x_cv1, ↓x_ireturn, rt103, Int.reduceAdd, Nat.reduceAdd, true_and, and_true, true_or, or_true, false_or, or_false, reduceCtorEq, false_and, and_false, and_self, or_self, false_implies, true_implies, not_true_eq_false, not_false_eq_true, implies_true, Option.some.injEq, kg12, kv12_8, ki6, up_s, up_n]
  refine b_q q ?_
  obtain ⟨z1, z2, z3, _⟩ := mi_iff.mp kMi
  have sz : P.1 125 (own + 19) = nI m := (z1 (125, 19, 93) (by decide)).trans em
  unfold k_mbr y_ring
  rw [z2, sz, em]
  by_cases c0 : m = 0
  · subst c0
    rw [if_pos (show nI 0 = 0 from rfl), if_pos (show nI 0 = 0 from rfl)]
    split
    · rfl
    · rw [if_neg (fun z => absurd (Int32.lt_of_le_of_lt z.1 z.2.1) (by decide))]
  · have c1 : ¬ nI m = 0 := fun z => c0 (by rw [show (0 : Int32) = nI 0 from rfl, i_eq (by omega) (by omega)] at z; exact z)
    rw [if_neg c1, if_neg c1]
    by_cases c2 : i = -1
    · rw [if_pos c2, if_pos c2]
    · rw [if_neg c2, if_neg c2]
      rcases tO_ok (U := U) (s := 0) (n := m) (o := i) (by omega) with ⟨h1, h2⟩ | ⟨j, j1, j2, h1, h2⟩
      · rw [h2, if_neg (show ¬ (false = true) by decide)]
        unfold k_tO at h1
        by_cases c3 : 0 ≤ i ∧ i < nI m
        · rw [if_pos c3] at h1; cases h1
        · rw [if_neg (fun z => c3 ⟨z.1, z.2.1⟩)]
      · rw [h2, if_pos rfl, j2]
        rw [if_pos ⟨nI_pos' (by omega), nI_lt j1 (by omega), by rw [show (12 : Int32) = nI 12 from rfl]; exact nI_lt (by omega) (by omega)⟩, i_cl (by omega)]
        exact (z3 j (by rw [em]; exact nI_lt j1 (by omega)) (by omega)).symm
theorem t_trace (hg : e_GK g) {i : Int32} : TW g own r0 116 169 [.int i] := by
  refine TWq (fun c Z P U r S hc hV => ?_)
  obtain ⟨N, n, b, l, nl, nw, nr, na, ne, ch, T, hI, hK, hR⟩ := hV
  have tO := hK.1.2.1
  have kMi := hK.2.2.2.2.2.2.2.2.2
  obtain ⟨m, hm, em⟩ := hI.2.2.2.2.2.1.2.2.2.1
  obtain ⟨a1, a2, a3, a4, a5, a6, a7, a8, a9, a10⟩ := hK.1.1.hse tO
  have t3 := (hK.1.1.shf a1).2
  refine ⟨y_trace i S, fun Ψ B q => ?_, fun M h Φ q => c_trace hg hm em q⟩
  refine e_call (cd := cd116) hg ok116 (by rw [mL116]; exact Nat.le_of_ble_eq_true rfl) ?_
  rw [mL116]
  simp only [x_ini, x_inr, x_inn, x_inq, x_inl, x_in0, x_rp0, x_rps, Nat.reduceSub]
  simp (decide := true) (disch := first | assumption | omega) only [↓u116_0, ↓x_nil, ↓x_om, ↓x_aload_0r, ↓x_aload_0n, ↓x_aload_0q, ↓x_getfield, ft_12_12, ft_12_320, ↓x_iload_1, ↓x_invokevirtual, mt_12_324, x_ps0, x_ps1, x_l40, x_l41, x_l42, x_l43, x_l44, ↓x_cv1, ↓x_ireturn, rt116, Int.reduceAdd, Nat.reduceAdd, true_and, and_true, true_or, or_true, false_or, or_false, reduceCtorEq, false_and, and_false, and_self, or_self, false_implies, true_implies, not_true_eq_false, not_false_eq_true, implies_true, Option.some.injEq, kg12, kv12_0, kg8, kv8_2, ki5, up_s, up_n]
  refine h_bodyAt hg t3.1 t3.2 ?_
  simp (decide := true) (disch := first | assumption | omega) only [↓u116_0, ↓x_nil, ↓x_om, ↓x_aload_0r, ↓x_aload_0n, ↓x_aload_0q, ↓x_getfield, ft_12_12, ft_12_320, ↓x_iload_1, ↓x_invokevirtual, mt_12_324, x_ps0, x_ps1, x_l40, x_l41, x_l42, x_l43, x_l44, ↓x_cv1, ↓x_ireturn, rt116, Int.reduceAdd, Nat.reduceAdd, true_and, and_true, true_or, or_true, false_or, or_false, reduceCtorEq, false_and, and_false, and_self, or_self, false_implies, true_implies, not_true_eq_false, not_false_eq_true, implies_true, Option.some.injEq, kg12, kv12_0, kg8, kv8_2, ki5, up_s, up_n]
  refine b_q q ?_
  obtain ⟨z1, z2, z3, z4⟩ := mi_iff.mp kMi
  have sz : P.1 103 (own + 1 + 2) = nI m := (z1 (103, 3, 30) (by decide)).trans em
  unfold k_bAt y_trace
  rw [sz, em]
  rcases tO_ok (U := U) (s := 0) (n := m) (o := i) (by omega) with ⟨h1, h2⟩ | ⟨j, j1, j2, h1, h2⟩
  · rw [h2, if_neg (show ¬ (false = true) by decide)]
    unfold k_tO at h1
    by_cases c3 : 0 ≤ i ∧ i < nI m
    · rw [if_pos c3] at h1; cases h1
    · rw [if_neg (fun z => c3 ⟨z.1, z.2.1⟩)]
  · rw [h2, if_pos rfl, j2]
    rw [if_pos ⟨nI_pos' (by omega), nI_lt j1 (by omega), by rw [show (16 : Int32) = nI 16 from rfl]; exact nI_lt (by omega) (by omega)⟩, i_cl (by omega)]
    exact (z4 j (by rw [em]; exact nI_lt j1 (by omega)) (by omega)).symm
end TV
