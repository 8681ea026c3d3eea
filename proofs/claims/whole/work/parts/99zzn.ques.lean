/-! more questions -/
section UQ
variable {g : e_G} {N own : Nat} {r0 : Nat × Nat}
theorem in_f {x lo hi : Int32} (h : ¬ (lo ≤ x ∧ x ≤ hi)) : y_isIn x lo hi = false := by
  cases e : y_isIn x lo hi
  · rfl
  · exfalso
    apply h
    unfold y_isIn at e
    simpa using e
theorem in_fl {x lo hi : Int32} (h : x < lo) : y_isIn x lo hi = false := in_f (fun z => absurd (Int32.lt_of_lt_of_le h z.1) Int32.lt_irrefl)
theorem in_fh {x lo hi y : Int32} (h : y ≤ x) (h2 : hi < y) : y_isIn x lo hi = false := in_f (fun z => absurd (Int32.lt_of_lt_of_le h2 (Int32.le_trans h z.2)) Int32.lt_irrefl)
theorem in_ge {x : Int32} {m : Nat} (hm : m ≤ 100000) (c1 : ¬ x < 0) (c2 : ¬ nI m ≤ x) : ∃ j, j < m ∧ x = nI j := by
  obtain ⟨j, h1, h2⟩ := nI_of2 (n := m) (by rw [nI_toInt (by omega)]) c1 (Int32.le_of_lt (Int32.not_le.mp c2))
  subst h2
  rw [i_le (by omega) (by omega)] at c2
  exact ⟨j, by omega, rfl⟩
theorem t_commute (hg : e_GK g) {s k a k2 a2 : Int32} : TW g own r0 113 173 [.int s, .int k, .int a, .int k2, .int a2] := by
  refine TWq (fun c Z P U r S hc hV => ?_)
  refine ⟨y_commute s k a k2 a2, fun Ψ B q => ?_, fun M h Φ q => c_commute hg q⟩
  refine e_call (cd := cd113) hg ok113 (by rw [mL113]; exact Nat.le_of_ble_eq_true rfl) ?_
  rw [mL113]
  simp only [x_ini, x_inr, x_inn, x_inq, x_inl, x_in0, x_rp0, x_rps, Nat.reduceSub]
  simp (decide := true) (disch := first | assumption | omega) only [↓u113_0, ↓u113_32, ↓u113_34, ↓u113_51, ↓u113_52, ↓x_nil, ↓x_om, ↓x_iload_1, ↓x_if_lt, ↓x_bipush_8, ↓x_icmp_ge, ↓x_iload_2, ↓x_bipush_22, ↓x_iload_4, ↓x_icmp_lt, ↓x_iconst_m1, ↓x_ireturn, rt113, ↓x_iload_3, ↓x_iload_5, ↓x_invokestatic, mt_12_286, x_ps0, x_ps1, x_l40, x_l41, x_l42, x_l43, x_l44, ↓x_cs5_1, ↓x_if_eq, ↓x_iconst_1, ↓x_goto, ↓x_iconst_0, Int.reduceAdd, Nat.reduceAdd, true_and, and_true, true_or, or_true, false_or, or_false, reduceCtorEq, false_and, and_false, and_self, or_self, false_implies, true_implies, not_true_eq_false, not_false_eq_true, implies_true, Option.some.injEq, up_s, up_n]
  refine ⟨fun c => b_q q (by simp [y_commute, in_fl c]), fun c1 => ⟨fun c => b_q q (by simp [y_commute, in_fh (lo := 0) (hi := 7) c (by decide)]), fun c2 => ⟨fun c => b_q q (by simp [y_commute, in_fl c]), fun c3 => ⟨fun c => b_q q (by simp [y_commute, in_fh (lo := 0) (hi := 21) c (by decide)]), fun c4 => ⟨fun c => b_q q (by simp [y_commute, in_fl c]), fun c5 => ⟨fun c6 => ?_, fun c => b_q q (by simp [y_commute, in_fh (lo := 0) (hi := 21) (Int32.not_lt.mp c) (by decide)])⟩⟩⟩⟩⟩⟩
  obtain ⟨j, hj, ej⟩ := in_ge (x := s) (m := 8) (by omega) c1 c2
  obtain ⟨k', hk, rfl⟩ := in_ge (x := k) (m := 22) (by omega) c3 c4
  obtain ⟨k2', hk2, rfl⟩ := in_ge (x := k2) (m := 22) (by omega) c5 (Int32.not_le.mpr c6)
  have e1 : y_isIn s 0 7 = true := by rw [ej]; exact io_i (n := 8) (by omega) hj
  have e2 : y_isIn (nI k') 0 21 = true := io_i (n := 22) (by omega) hk
  have e3 : y_isIn (nI k2') 0 21 = true := io_i (n := 22) (by omega) hk2
  unfold y_commute at q
  rw [if_pos ⟨e1, e2, e3⟩] at q
  refine h_agree hg hk hk2 ?_
  simp (decide := true) (disch := first | assumption | omega) only [↓u113_0, ↓u113_32, ↓u113_34, ↓u113_51, ↓u113_52, ↓x_nil, ↓x_om, ↓x_iload_1, ↓x_if_lt, ↓x_bipush_8, ↓x_icmp_ge, ↓x_iload_2, ↓x_bipush_22, ↓x_iload_4, ↓x_icmp_lt, ↓x_iconst_m1, ↓x_ireturn, rt113, ↓x_iload_3, ↓x_iload_5, ↓x_invokestatic, mt_12_286, x_ps0, x_ps1, x_l40, x_l41, x_l42, x_l43, x_l44, ↓x_cs5_1, ↓x_if_eq, ↓x_iconst_1, ↓x_goto, ↓x_iconst_0, Int.reduceAdd, Nat.reduceAdd, true_and, and_true, true_or, or_true, false_or, or_false, reduceCtorEq, false_and, and_false, and_self, or_self, false_implies, true_implies, not_true_eq_false, not_false_eq_true, implies_true, Option.some.injEq, up_s, up_n]
  refine c_bool (fun z => ?_) (fun z => ?_)
  · rw [z] at q; exact q
  · rw [z] at q; exact q
theorem t_ended (hg : e_GK g) (hA : e_AK g) {e : Int32} : TW g own r0 111 233 [.int e] := by
  refine TWq (fun c Z P U r S hc hV => ?_)
  obtain ⟨N, n, b, l, nl, nw, nr, na, ne, ch, T, hI, hK, hR⟩ := hV
  have b400 := hI.2.1.1
  have tO := hK.1.2.1
  have hE := hI.2.2.1
  have neb := hE.2.1
  obtain ⟨a1, a2, a3, a4, a5, a6, a7, a8, a9, a10⟩ := hK.1.1.hse tO
  have kEn := hK.2.2.2.2.2.1
  have l16 : (U.2.1 (own + 16)).length = ne := by rw [kEn, List.length_map, List.length_range]
  refine ⟨y_ended e S, fun Ψ B q => ?_, fun M h Φ q => c_ended hg (by omega) hE.1 q⟩
  refine e_call (cd := cd111) hg ok111 (by rw [mL111]; exact Nat.le_of_ble_eq_true rfl) ?_
  rw [mL111]
  simp only [x_ini, x_inr, x_inn, x_inq, x_inl, x_in0, x_rp0, x_rps, Nat.reduceSub]
  simp (decide := true) (disch := first | assumption | omega) only [↓u111_0, ↓u111_16, ↓u111_21, ↓u111_37, ↓x_nil, ↓x_om, ↓x_iload_1, ↓x_iconst_1, ↓x_icmp_lt, ↓x_aload_0r, ↓x_aload_0n, ↓x_aload_0q, ↓x_getfield, ft_12_38, ↓x_invokevirtual, mt_12_165, x_ps0, x_ps1, x_l40, x_l41, x_l42, x_l43, x_l44, ↓x_cv0, ↓x_icmp_le, ↓x_bipush_m9, ↓x_goto, ↓x_isub, mt_12_246, ↓x_cv1, ↓x_checkcast, ↓x_ckr, ↓x_ckn, ct_12_126, ft_12_170, ↓x_ireturn, rt111, Int.reduceAdd, Nat.reduceAdd, true_and, and_true, true_or, or_true, false_or, or_false, reduceCtorEq, false_and, and_false, and_self, or_self, false_implies, true_implies, not_true_eq_false, not_false_eq_true, implies_true, Option.some.injEq, kg12, kv12_6, kiL30, kiL31, kiL32, kg2, kg3, kg7, kv2_0, up_s, up_n]
  refine ⟨fun c => b_q q (by unfold y_ended; rw [in_fl c, if_neg (by decide)]), fun c1 => l_size hA (k_tL30 a7) ?_⟩
  rw [l16]
  simp (decide := true) (disch := first | assumption | omega) only [↓u111_0, ↓u111_16, ↓u111_21, ↓u111_37, ↓x_nil, ↓x_om, ↓x_iload_1, ↓x_iconst_1, ↓x_icmp_lt, ↓x_aload_0r, ↓x_aload_0n, ↓x_aload_0q, ↓x_getfield, ft_12_38, ↓x_invokevirtual, mt_12_165, x_ps0, x_ps1, x_l40, x_l41, x_l42, x_l43, x_l44, ↓x_cv0, ↓x_icmp_le, ↓x_bipush_m9, ↓x_goto, ↓x_isub, mt_12_246, ↓x_cv1, ↓x_checkcast, ↓x_ckr, ↓x_ckn, ct_12_126, ft_12_170, ↓x_ireturn, rt111, Int.reduceAdd, Nat.reduceAdd, true_and, and_true, true_or, or_true, false_or, or_false, reduceCtorEq, false_and, and_false, and_self, or_self, false_implies, true_implies, not_true_eq_false, not_false_eq_true, implies_true, Option.some.injEq, kg12, kv12_6, kiL30, kiL31, kiL32, kg2, kg3, kg7, kv2_0, up_s, up_n]
  refine ⟨fun c2 => ?_, fun c2 => b_q q (by unfold y_ended; rw [hE.1, in_f (fun z => c2 z.2), if_neg (by decide)])⟩
  have hi : y_isIn e 1 (nI ne) = true := in_tr (Int32.not_lt.mp c1) c2
  obtain ⟨j, j1, j2, rfl⟩ := i1_t (by omega) hi
  obtain ⟨t, ρ, z1, z2, z3, _⟩ := hE.2.2.2.1 (j - 1) (by omega)
  rw [show j - 1 + 1 = j by omega] at z1
  have hx : (U.2.1 (own + 16))[j - 1]? = some (dl U own t) := by
    rw [kEn, List.getElem?_map, List.getElem?_range (by omega)]
    show some (dl U own (S.2 61 (j - 1 + 1)).toNatClampNeg) = _
    rw [show j - 1 + 1 = j by omega, z1, i_cl (by omega)]
  have td := (dl_t hK.1 hK.2.2.2.2.1.1 z2 z3).1
  have num := (hK.2.2.2.2.1.2.2.1 t z2 z3).1
  rw [i_s1 (by omega)]
  refine l_get hA (k_tL30 a7) (hK.1.1.cap _).1 hx ?_
  simp (decide := true) (disch := first | assumption | omega) only [↓u111_0, ↓u111_16, ↓u111_21, ↓u111_37, ↓x_nil, ↓x_om, ↓x_iload_1, ↓x_iconst_1, ↓x_icmp_lt, ↓x_aload_0r, ↓x_aload_0n, ↓x_aload_0q, ↓x_getfield, ft_12_38, ↓x_invokevirtual, mt_12_165, x_ps0, x_ps1, x_l40, x_l41, x_l42, x_l43, x_l44, ↓x_cv0, ↓x_icmp_le, ↓x_bipush_m9, ↓x_goto, ↓x_isub, mt_12_246, ↓x_cv1, ↓x_checkcast, ↓x_ckr, ↓x_ckn, ct_12_126, ft_12_170, ↓x_ireturn, rt111, Int.reduceAdd, Nat.reduceAdd, true_and, and_true, true_or, or_true, false_or, or_false, reduceCtorEq, false_and, and_false, and_self, or_self, false_implies, true_implies, not_true_eq_false, not_false_eq_true, implies_true, Option.some.injEq, num, kg12, kv12_6, kiL30, kiL31, kiL32, kg2, kg3, kg7, kv2_0, up_s, up_n]
  refine b_q q ?_
  unfold y_ended
  rw [hE.1, hi, if_pos rfl, i_cl (by omega), z1]
theorem t_row (hg : e_GK g) (hA : e_AK g) {i w : Int32} : TW g own r0 110 164 [.int i, .int w] := by
  refine TWq (fun c Z P U r S hc hV => ?_)
  obtain ⟨N, n, b, l, nl, nw, nr, na, ne, ch, T, hI, hK, hR⟩ := hV
  have tO := hK.1.2.1
  obtain ⟨a1, a2, a3, a4, a5, a6, a7, a8, a9, a10⟩ := hK.1.1.hse tO
  have kLg := hK.2.1
  have nr6 : nr ≤ 1100 := by
    obtain ⟨p1, p2, p3, _⟩ := hI.2.2.2.2.2.2.1
    omega
  refine ⟨y_row i w S, fun Ψ B q => ?_, fun M h Φ q => c_row hg (by omega) hI.1.1 q⟩
  refine e_call (cd := cd110) hg ok110 (by rw [mL110]; exact Nat.le_of_ble_eq_true rfl) ?_
  rw [mL110]
  simp only [x_ini, x_inr, x_inn, x_inq, x_inl, x_in0, x_rp0, x_rps, Nat.reduceSub]
  simp (decide := true) (disch := first | assumption | omega) only [↓u110_0, ↓u110_10, ↓u110_12, ↓u110_30, ↓u110_35, ↓x_nil, ↓x_om, ↓x_iload_2, ↓x_if_lt, ↓x_bipush_7, ↓x_icmp_le, ↓x_iconst_m1, ↓x_ireturn, rt110, ↓x_aload_0r, ↓x_aload_0n, ↓x_aload_0q, ↓x_getfield, ft_12_44, ↓x_iload_1, ↓x_invokevirtual, mt_12_278, x_ps0, x_ps1, x_l40, x_l41, x_l42, x_l43, x_l44, ↓x_cv1, ↓x_astore_3r, ↓x_astore_3n, ↓x_astore_3q, x_cl_i, x_cl_r, x_cl_n, x_cl_q, x_cl_0, x_cl_l, ↓x_aload_3r, ↓x_aload_3n, ↓x_aload_3q, ↓x_ifnonnull_n, ↓x_ifnonnull_r, ↓x_ifnonnull_q, ↓x_bipush_m9, ↓x_goto, mt_12_282, Int.reduceAdd, Nat.reduceAdd, true_and, and_true, true_or, or_true, false_or, or_false, reduceCtorEq, false_and, and_false, and_self, or_self, false_implies, true_implies, not_true_eq_false, not_false_eq_true, implies_true, Option.some.injEq, kg12, kv12_7, ki4, ki7, up_s, up_n]
  refine ⟨fun c => b_q q (by unfold y_row; rw [in_fl c, if_neg (by decide)]), fun c1 => ⟨fun c2 => ?_, fun c2 => b_q q (by unfold y_row; rw [in_f (fun z => c2 z.2), if_neg (by decide)])⟩⟩
  have hw : y_isIn w 0 7 = true := in_tr (Int32.not_lt.mp c1) c2
  unfold y_row at q
  rw [hw, if_pos rfl, hI.1.1] at q
  have t18 := hK.1.1.log a8
  cases hi : y_isIn i 0 (nI nr - 1)
  · rw [hi, if_neg (by decide)] at q
    refine h_logNull hg hA hK.1.1 a8 ?_ ?_
    · rw [show own + 17 + 1 = own + 18 from rfl, kLg.1]
      by_cases c3 : i < 0
      · exact Or.inl c3
      · refine Or.inr ?_
        by_cases c4 : nI nr ≤ i
        · exact c4
        · obtain ⟨j, hj, rfl⟩ := in_ge (by omega) c3 c4
          rw [io_i (by omega) hj] at hi
          cases hi
    · simp (decide := true) (disch := first | assumption | omega) only [↓u110_0, ↓u110_10, ↓u110_12, ↓u110_30, ↓u110_35, ↓x_nil, ↓x_om, ↓x_iload_2, ↓x_if_lt, ↓x_bipush_7, ↓x_icmp_le, ↓x_iconst_m1, ↓x_ireturn, rt110, ↓x_aload_0r, ↓x_aload_0n, ↓x_aload_0q, ↓x_getfield, ft_12_44, ↓x_iload_1, ↓x_invokevirtual, mt_12_278, x_ps0, x_ps1, x_l40, x_l41, x_l42, x_l43, x_l44, ↓x_cv1, ↓x_astore_3r, ↓x_astore_3n, ↓x_astore_3q, x_cl_i, x_cl_r, x_cl_n, x_cl_q, x_cl_0, x_cl_l, ↓x_aload_3r, ↓x_aload_3n, ↓x_aload_3q, ↓x_ifnonnull_n, ↓x_ifnonnull_r, ↓x_ifnonnull_q, ↓x_bipush_m9, ↓x_goto, mt_12_282, Int.reduceAdd, Nat.reduceAdd, true_and, and_true, true_or, or_true, false_or, or_false, reduceCtorEq, false_and, and_false, and_self, or_self, false_implies, true_implies, not_true_eq_false, not_false_eq_true, implies_true, Option.some.injEq, kg12, kv12_7, ki4, ki7, up_s, up_n]
      exact q
  · rw [hi, if_pos rfl] at q
    obtain ⟨j, hj, rfl⟩ := io_t (by omega) hi
    rw [i_cl (by omega)] at q
    have hjl : j < (U.2.1 (own + 18)).length := by rw [kLg.1]; exact hj
    have hx : (U.2.1 (own + 18))[j]? = some ((U.2.1 (own + 18))[j]'hjl) := List.getElem?_eq_getElem hjl
    generalize (U.2.1 (own + 18))[j]'hjl = x at hx
    have tx : Z.1 x = 8 := hK.1.1.lro t18 (List.mem_of_getElem? hx)
    obtain ⟨r1, r2, r3, r4, r5, r6, r7, r8⟩ := (kLg.2.2.1 j x hx).1
    refine h_logAt hg hA hK.1.1 a8 hx (by rw [show own + 17 + 1 = own + 18 from rfl, kLg.1]; omega) ?_
    simp (decide := true) (disch := first | assumption | omega) only [↓u110_0, ↓u110_10, ↓u110_12, ↓u110_30, ↓u110_35, ↓x_nil, ↓x_om, ↓x_iload_2, ↓x_if_lt, ↓x_bipush_7, ↓x_icmp_le, ↓x_iconst_m1, ↓x_ireturn, rt110, ↓x_aload_0r, ↓x_aload_0n, ↓x_aload_0q, ↓x_getfield, ft_12_44, ↓x_iload_1, ↓x_invokevirtual, mt_12_278, x_ps0, x_ps1, x_l40, x_l41, x_l42, x_l43, x_l44, ↓x_cv1, ↓x_astore_3r, ↓x_astore_3n, ↓x_astore_3q, x_cl_i, x_cl_r, x_cl_n, x_cl_q, x_cl_0, x_cl_l, ↓x_aload_3r, ↓x_aload_3n, ↓x_aload_3q, ↓x_ifnonnull_n, ↓x_ifnonnull_r, ↓x_ifnonnull_q, ↓x_bipush_m9, ↓x_goto, mt_12_282, Int.reduceAdd, Nat.reduceAdd, true_and, and_true, true_or, or_true, false_or, or_false, reduceCtorEq, false_and, and_false, and_self, or_self, false_implies, true_implies, not_true_eq_false, not_false_eq_true, implies_true, Option.some.injEq, kg12, kv12_7, ki4, ki7, up_s, up_n]
    refine h_tellR hg tx ?_
    simp (decide := true) (disch := first | assumption | omega) only [↓u110_0, ↓u110_10, ↓u110_12, ↓u110_30, ↓u110_35, ↓x_nil, ↓x_om, ↓x_iload_2, ↓x_if_lt, ↓x_bipush_7, ↓x_icmp_le, ↓x_iconst_m1, ↓x_ireturn, rt110, ↓x_aload_0r, ↓x_aload_0n, ↓x_aload_0q, ↓x_getfield, ft_12_44, ↓x_iload_1, ↓x_invokevirtual, mt_12_278, x_ps0, x_ps1, x_l40, x_l41, x_l42, x_l43, x_l44, ↓x_cv1, ↓x_astore_3r, ↓x_astore_3n, ↓x_astore_3q, x_cl_i, x_cl_r, x_cl_n, x_cl_q, x_cl_0, x_cl_l, ↓x_aload_3r, ↓x_aload_3n, ↓x_aload_3q, ↓x_ifnonnull_n, ↓x_ifnonnull_r, ↓x_ifnonnull_q, ↓x_bipush_m9, ↓x_goto, mt_12_282, Int.reduceAdd, Nat.reduceAdd, true_and, and_true, true_or, or_true, false_or, or_false, reduceCtorEq, false_and, and_false, and_self, or_self, false_implies, true_implies, not_true_eq_false, not_false_eq_true, implies_true, Option.some.injEq, kg12, kv12_7, ki4, ki7, up_s, up_n]
    refine b_q q ?_
    unfold k_rtl
    rw [r1, r2, r3, r4, r5, r6, r7, r8]
theorem t_object (hg : e_GK g) {o w : Int32} : TW g own r0 88 161 [.int o, .int w] := by
  refine TWq (fun c Z P U r S hc hV => ?_)
  obtain ⟨N, n, b, l, nl, nw, nr, na, ne, ch, T, hI, hK, hR⟩ := hV
  have tO := hK.1.2.1
  obtain ⟨a1, a2, a3, a4, a5, a6, a7, a8, a9, a10⟩ := hK.1.1.hse tO
  obtain ⟨E, kLg, ⟨hs1, hS1⟩, ⟨hs5, hS5⟩, _⟩ := hK
  have n40 := hs1.2.2.1
  refine ⟨y_object o w S, fun Ψ B q => ?_, fun M h Φ q => c_object hg n40 hI.2.2.2.2.2.1.1 hI.1.2.2.2.2.2.2.2.2.2 q⟩
  refine e_call (cd := cd88) hg ok88 (by rw [mL88]; exact Nat.le_of_ble_eq_true rfl) ?_
  rw [mL88]
  simp only [x_ini, x_inr, x_inn, x_inq, x_inl, x_in0, x_rp0, x_rps, Nat.reduceSub]
  simp (decide := true) (disch := first | assumption | omega) only [↓u88_0, ↓u88_28, ↓u88_30, ↓u88_60, ↓u88_65, ↓u88_70, ↓u88_75, ↓u88_81, ↓x_nil, ↓x_om, ↓x_aload_0r, ↓x_aload_0n, ↓x_aload_0q, ↓x_getfield, ft_12_12, ↓x_iload_1, ↓x_invokevirtual, mt_12_69, x_ps0, x_ps1, x_l40, x_l41, x_l42, x_l43, x_l44, ↓x_cv1, ↓x_astore_3r, ↓x_astore_3n, ↓x_astore_3q, x_cl_i, x_cl_r, x_cl_n, x_cl_q, x_cl_0, x_cl_l, ft_12_16, ↓x_astore_4r, ↓x_astore_4n, ↓x_astore_4q, ↓x_aload_3r, ↓x_aload_3n, ↓x_aload_3q, ↓x_ifnull_n, ↓x_ifnull_r, ↓x_ifnull_q, ↓x_aload_4r, ↓x_aload_4n, ↓x_aload_4q, ↓x_ifnonnull_n, ↓x_ifnonnull_r, ↓x_ifnonnull_q, ↓x_iconst_m1, ↓x_ireturn, rt88, ↓x_iload_2, ↓x_tsw, ↓x_sw0, ↓x_swc, x_ti0, x_ti1, x_ti2, x_ti3, x_tl0, x_tg3, ft_12_73, ft_12_110, mt_12_113, ↓x_cv0, Int.reduceAdd, Nat.reduceAdd, true_and, and_true, true_or, or_true, false_or, or_false, reduceCtorEq, false_and, and_false, and_self, or_self, false_implies, true_implies, not_true_eq_false, not_false_eq_true, implies_true, Option.some.injEq, kg12, kv12_0, ki8, kv12_1, kg11, kv11_0, kv11_1, ki11, up_s, up_n]
  have sz : ∀ x0 s j, (x0 = 0 ∧ s = own + 1) ∨ (x0 = 40 ∧ s = own + 5) → j < n → P.1 220 (k_th U s j) = 4 → ∃ z, z ≤ 8 ∧ P.1 223 (k_th U s j) = nI z := fun x0 s j h hj z4 => by
    rcases h with ⟨_, rfl⟩ | ⟨_, rfl⟩
    · obtain ⟨z, z1, z2, _⟩ := (hS1 j hj).2.2.2.1.1 (by rw [← (hS1 j hj).1]; exact z4)
      exact ⟨z, z1, z2⟩
    · obtain ⟨z, z1, z2, _⟩ := (hS5 j hj).2.2.2.1.1 (by rw [← (hS5 j hj).1]; exact z4)
      exact ⟨z, z1, z2⟩
  refine h_thing hg E.1 hs1 ?_
  rcases tO_ok (U := U) (s := own + 1) (n := n) (o := o) n40 with ⟨h1, h2⟩ | ⟨j, j1, j2, h1, h2⟩
  · rw [h1, k_rfn]
    simp (decide := true) (disch := first | assumption | omega) only [↓u88_0, ↓u88_28, ↓u88_30, ↓u88_60, ↓u88_65, ↓u88_70, ↓u88_75, ↓u88_81, ↓x_nil, ↓x_om, ↓x_aload_0r, ↓x_aload_0n, ↓x_aload_0q, ↓x_getfield, ft_12_12, ↓x_iload_1, ↓x_invokevirtual, mt_12_69, x_ps0, x_ps1, x_l40, x_l41, x_l42, x_l43, x_l44, ↓x_cv1, ↓x_astore_3r, ↓x_astore_3n, ↓x_astore_3q, x_cl_i, x_cl_r, x_cl_n, x_cl_q, x_cl_0, x_cl_l, ft_12_16, ↓x_astore_4r, ↓x_astore_4n, ↓x_astore_4q, ↓x_aload_3r, ↓x_aload_3n, ↓x_aload_3q, ↓x_ifnull_n, ↓x_ifnull_r, ↓x_ifnull_q, ↓x_aload_4r, ↓x_aload_4n, ↓x_aload_4q, ↓x_ifnonnull_n, ↓x_ifnonnull_r, ↓x_ifnonnull_q, ↓x_iconst_m1, ↓x_ireturn, rt88, ↓x_iload_2, ↓x_tsw, ↓x_sw0, ↓x_swc, x_ti0, x_ti1, x_ti2, x_ti3, x_tl0, x_tg3, ft_12_73, ft_12_110, mt_12_113, ↓x_cv0, Int.reduceAdd, Nat.reduceAdd, true_and, and_true, true_or, or_true, false_or, or_false, reduceCtorEq, false_and, and_false, and_self, or_self, false_implies, true_implies, not_true_eq_false, not_false_eq_true, implies_true, Option.some.injEq, kg12, kv12_0, ki8, kv12_1, kg11, kv11_0, kv11_1, ki11, up_s, up_n]
    refine h_thing hg E.1 hs5 ?_
    simp (decide := true) (disch := first | assumption | omega) only [↓u88_0, ↓u88_28, ↓u88_30, ↓u88_60, ↓u88_65, ↓u88_70, ↓u88_75, ↓u88_81, ↓x_nil, ↓x_om, ↓x_aload_0r, ↓x_aload_0n, ↓x_aload_0q, ↓x_getfield, ft_12_12, ↓x_iload_1, ↓x_invokevirtual, mt_12_69, x_ps0, x_ps1, x_l40, x_l41, x_l42, x_l43, x_l44, ↓x_cv1, ↓x_astore_3r, ↓x_astore_3n, ↓x_astore_3q, x_cl_i, x_cl_r, x_cl_n, x_cl_q, x_cl_0, x_cl_l, ft_12_16, ↓x_astore_4r, ↓x_astore_4n, ↓x_astore_4q, ↓x_aload_3r, ↓x_aload_3n, ↓x_aload_3q, ↓x_ifnull_n, ↓x_ifnull_r, ↓x_ifnull_q, ↓x_aload_4r, ↓x_aload_4n, ↓x_aload_4q, ↓x_ifnonnull_n, ↓x_ifnonnull_r, ↓x_ifnonnull_q, ↓x_iconst_m1, ↓x_ireturn, rt88, ↓x_iload_2, ↓x_tsw, ↓x_sw0, ↓x_swc, x_ti0, x_ti1, x_ti2, x_ti3, x_tl0, x_tg3, ft_12_73, ft_12_110, mt_12_113, ↓x_cv0, Int.reduceAdd, Nat.reduceAdd, true_and, and_true, true_or, or_true, false_or, or_false, reduceCtorEq, false_and, and_false, and_self, or_self, false_implies, true_implies, not_true_eq_false, not_false_eq_true, implies_true, Option.some.injEq, kg12, kv12_0, ki8, kv12_1, kg11, kv11_0, kv11_1, ki11, up_s, up_n]
    refine b_q q ?_
    unfold y_object
    rw [hI.2.2.2.2.2.1.1, h2, if_neg (fun z => by cases z.1)]
  · subst j2
    obtain ⟨t1, tc1⟩ := k_th_t E.1 hs1 j1
    obtain ⟨t5, tc5⟩ := k_th_t E.1 hs5 j1
    rw [h1, k_rfs]
    simp (decide := true) (disch := first | assumption | omega) only [↓u88_0, ↓u88_28, ↓u88_30, ↓u88_60, ↓u88_65, ↓u88_70, ↓u88_75, ↓u88_81, ↓x_nil, ↓x_om, ↓x_aload_0r, ↓x_aload_0n, ↓x_aload_0q, ↓x_getfield, ft_12_12, ↓x_iload_1, ↓x_invokevirtual, mt_12_69, x_ps0, x_ps1, x_l40, x_l41, x_l42, x_l43, x_l44, ↓x_cv1, ↓x_astore_3r, ↓x_astore_3n, ↓x_astore_3q, x_cl_i, x_cl_r, x_cl_n, x_cl_q, x_cl_0, x_cl_l, ft_12_16, ↓x_astore_4r, ↓x_astore_4n, ↓x_astore_4q, ↓x_aload_3r, ↓x_aload_3n, ↓x_aload_3q, ↓x_ifnull_n, ↓x_ifnull_r, ↓x_ifnull_q, ↓x_aload_4r, ↓x_aload_4n, ↓x_aload_4q, ↓x_ifnonnull_n, ↓x_ifnonnull_r, ↓x_ifnonnull_q, ↓x_iconst_m1, ↓x_ireturn, rt88, ↓x_iload_2, ↓x_tsw, ↓x_sw0, ↓x_swc, x_ti0, x_ti1, x_ti2, x_ti3, x_tl0, x_tg3, ft_12_73, ft_12_110, mt_12_113, ↓x_cv0, Int.reduceAdd, Nat.reduceAdd, true_and, and_true, true_or, or_true, false_or, or_false, reduceCtorEq, false_and, and_false, and_self, or_self, false_implies, true_implies, not_true_eq_false, not_false_eq_true, implies_true, Option.some.injEq, kg12, kv12_0, ki8, kv12_1, kg11, kv11_0, kv11_1, ki11, up_s, up_n]
    refine h_thingS hg E.1 hs5 j1 ?_
    have q1 : P.1 220 (k_th U (own + 1) j) = S.2 4 j := (hS1 j j1).1
    have q2 : P.1 221 (k_th U (own + 1) j) = S.2 5 j := (hS1 j j1).2.1
    simp (decide := true) (disch := first | assumption | omega) only [↓u88_0, ↓u88_28, ↓u88_30, ↓u88_60, ↓u88_65, ↓u88_70, ↓u88_75, ↓u88_81, ↓x_nil, ↓x_om, ↓x_aload_0r, ↓x_aload_0n, ↓x_aload_0q, ↓x_getfield, ft_12_12, ↓x_iload_1, ↓x_invokevirtual, mt_12_69, x_ps0, x_ps1, x_l40, x_l41, x_l42, x_l43, x_l44, ↓x_cv1, ↓x_astore_3r, ↓x_astore_3n, ↓x_astore_3q, x_cl_i, x_cl_r, x_cl_n, x_cl_q, x_cl_0, x_cl_l, ft_12_16, ↓x_astore_4r, ↓x_astore_4n, ↓x_astore_4q, ↓x_aload_3r, ↓x_aload_3n, ↓x_aload_3q, ↓x_ifnull_n, ↓x_ifnull_r, ↓x_ifnull_q, ↓x_aload_4r, ↓x_aload_4n, ↓x_aload_4q, ↓x_ifnonnull_n, ↓x_ifnonnull_r, ↓x_ifnonnull_q, ↓x_iconst_m1, ↓x_ireturn, rt88, ↓x_iload_2, ↓x_tsw, ↓x_sw0, ↓x_swc, x_ti0, x_ti1, x_ti2, x_ti3, x_tl0, x_tg3, ft_12_73, ft_12_110, mt_12_113, ↓x_cv0, Int.reduceAdd, Nat.reduceAdd, true_and, and_true, true_or, or_true, false_or, or_false, reduceCtorEq, false_and, and_false, and_self, or_self, false_implies, true_implies, not_true_eq_false, not_false_eq_true, implies_true, Option.some.injEq, q1, q2, kg12, kv12_0, ki8, kv12_1, kg11, kv11_0, kv11_1, ki11, up_s, up_n]
    unfold y_object at q
    rw [hI.2.2.2.2.2.1.1, h2, i_cl (by omega)] at q
    refine ⟨fun c => b_q q ?_, fun c => b_q q ?_, fun c => b_q q ?_, fun c => ?_, fun c => ?_⟩
    · rw [in_f (fun z => ?_), if_neg (fun z => by cases z.2)]
      rcases c with c | c
      · exact absurd (Int32.lt_of_lt_of_le c z.1) Int32.lt_irrefl
      · exact absurd (Int32.lt_of_lt_of_le c z.2) Int32.lt_irrefl
    · subst c; rfl
    · subst c; rfl
    · subst c
      refine h_summary hg t1 tc1 (sz 0 _ j (Or.inl ⟨rfl, rfl⟩) j1) ?_
      rw [dig_ok (F := S.1) hS1 j1 n40 (Or.inl rfl), Nat.zero_add]
      simp (decide := true) (disch := first | assumption | omega) only [↓u88_0, ↓u88_28, ↓u88_30, ↓u88_60, ↓u88_65, ↓u88_70, ↓u88_75, ↓u88_81, ↓x_nil, ↓x_om, ↓x_aload_0r, ↓x_aload_0n, ↓x_aload_0q, ↓x_getfield, ft_12_12, ↓x_iload_1, ↓x_invokevirtual, mt_12_69, x_ps0, x_ps1, x_l40, x_l41, x_l42, x_l43, x_l44, ↓x_cv1, ↓x_astore_3r, ↓x_astore_3n, ↓x_astore_3q, x_cl_i, x_cl_r, x_cl_n, x_cl_q, x_cl_0, x_cl_l, ft_12_16, ↓x_astore_4r, ↓x_astore_4n, ↓x_astore_4q, ↓x_aload_3r, ↓x_aload_3n, ↓x_aload_3q, ↓x_ifnull_n, ↓x_ifnull_r, ↓x_ifnull_q, ↓x_aload_4r, ↓x_aload_4n, ↓x_aload_4q, ↓x_ifnonnull_n, ↓x_ifnonnull_r, ↓x_ifnonnull_q, ↓x_iconst_m1, ↓x_ireturn, rt88, ↓x_iload_2, ↓x_tsw, ↓x_sw0, ↓x_swc, x_ti0, x_ti1, x_ti2, x_ti3, x_tl0, x_tg3, ft_12_73, ft_12_110, mt_12_113, ↓x_cv0, Int.reduceAdd, Nat.reduceAdd, true_and, and_true, true_or, or_true, false_or, or_false, reduceCtorEq, false_and, and_false, and_self, or_self, false_implies, true_implies, not_true_eq_false, not_false_eq_true, implies_true, Option.some.injEq, kg12, kv12_0, ki8, kv12_1, kg11, kv11_0, kv11_1, ki11, up_s, up_n]
      exact q
    · subst c
      refine h_summary hg t5 tc5 (sz 40 _ j (Or.inr ⟨rfl, rfl⟩) j1) ?_
      rw [dig_ok (F := S.1) hS5 j1 n40 (Or.inr (Or.inl rfl))]
      simp (decide := true) (disch := first | assumption | omega) only [↓u88_0, ↓u88_28, ↓u88_30, ↓u88_60, ↓u88_65, ↓u88_70, ↓u88_75, ↓u88_81, ↓x_nil, ↓x_om, ↓x_aload_0r, ↓x_aload_0n, ↓x_aload_0q, ↓x_getfield, ft_12_12, ↓x_iload_1, ↓x_invokevirtual, mt_12_69, x_ps0, x_ps1, x_l40, x_l41, x_l42, x_l43, x_l44, ↓x_cv1, ↓x_astore_3r, ↓x_astore_3n, ↓x_astore_3q, x_cl_i, x_cl_r, x_cl_n, x_cl_q, x_cl_0, x_cl_l, ft_12_16, ↓x_astore_4r, ↓x_astore_4n, ↓x_astore_4q, ↓x_aload_3r, ↓x_aload_3n, ↓x_aload_3q, ↓x_ifnull_n, ↓x_ifnull_r, ↓x_ifnull_q, ↓x_aload_4r, ↓x_aload_4n, ↓x_aload_4q, ↓x_ifnonnull_n, ↓x_ifnonnull_r, ↓x_ifnonnull_q, ↓x_iconst_m1, ↓x_ireturn, rt88, ↓x_iload_2, ↓x_tsw, ↓x_sw0, ↓x_swc, x_ti0, x_ti1, x_ti2, x_ti3, x_tl0, x_tg3, ft_12_73, ft_12_110, mt_12_113, ↓x_cv0, Int.reduceAdd, Nat.reduceAdd, true_and, and_true, true_or, or_true, false_or, or_false, reduceCtorEq, false_and, and_false, and_self, or_self, false_implies, true_implies, not_true_eq_false, not_false_eq_true, implies_true, Option.some.injEq, kg12, kv12_0, ki8, kv12_1, kg11, kv11_0, kv11_1, ki11, up_s, up_n]
      exact q
theorem t_digest (hg : e_GK g) : TW g own r0 89 162 [] := by
  refine TWq (fun c Z P U r S hc hV => ?_)
  obtain ⟨N, n, b, l, nl, nw, nr, na, ne, ch, T, hI, hK, hR⟩ := hV
  have tO := hK.1.2.1
  obtain ⟨a1, a2, a3, a4, a5, a6, a7, a8, a9, a10⟩ := hK.1.1.hse tO
  obtain ⟨E, kLg, ⟨hs1, hS1⟩, ⟨hs5, hS5⟩, _⟩ := hK
  have n40 := hs1.2.2.1
  refine ⟨y_dgR S 0 n 17, fun Ψ B q => ?_, fun M h Φ q => c_digest hg n40 hI.2.2.2.2.2.1.1 hI.1.2.2.2.2.2.2.2.2.2 q⟩
  refine e_call (cd := cd89) hg ok89 (by rw [mL89]; exact Nat.le_of_ble_eq_true rfl) ?_
  rw [mL89]
  simp only [x_ini, x_inr, x_inn, x_inq, x_inl, x_in0, x_rp0, x_rps, Nat.reduceSub]
  have lp : ∀ m o d w3, o + m = n → Ψ (some (.int (y_dgR S o m d))) (K_H Z P U (B, r)) → e_Sm g 89 12 cd89 Ψ 5 [some (.ref own), some (.int d), some (.int (nI o)), w3] [] (K_H Z P U (B, r)) := by
    intro m
    have esz : P.1 161 (own + 1) = nI n := hs1.2.1
    induction m with
    | zero =>
      intro o d w3 ho q
      rw [u89_5]
      simp (decide := true) (disch := first | assumption | omega) only [↓u89_0, ↓u89_37, ↓u89_41, ↓u89_49, ↓x_nil, ↓x_om, ↓x_bipush_17, ↓x_istore_1, x_cl_i, x_cl_r, x_cl_n, x_cl_q, x_cl_0, x_cl_l, ↓x_iconst_0, ↓x_istore_2, ↓x_iload_2, ↓x_aload_0r, ↓x_aload_0n, ↓x_aload_0q, ↓x_getfield, ft_12_12, ft_12_86, ↓x_icmp_ge, ↓x_invokevirtual, mt_12_69, x_ps0, x_ps1, x_l40, x_l41, x_l42, x_l43, x_l44, ↓x_cv1, ↓x_astore_3r, ↓x_astore_3n, ↓x_astore_3q, ↓x_bipush_31, ↓x_iload_1, ↓x_imul, ↓x_aload_3r, ↓x_aload_3n, ↓x_aload_3q, ↓x_ifnonnull_n, ↓x_ifnonnull_r, ↓x_ifnonnull_q, ↓x_goto, mt_12_113, ↓x_cv0, ↓x_iadd, ↓x_iinc_2_1, ↓x_ireturn, rt89, Int.reduceAdd, Nat.reduceAdd, true_and, and_true, true_or, or_true, false_or, or_false, reduceCtorEq, false_and, and_false, and_self, or_self, false_implies, true_implies, not_true_eq_false, not_false_eq_true, implies_true, Option.some.injEq, i_add, i_a1, i_m8, i_m5, i_m401, i_40, i_80, i_r40, i_s1, i_am1, i_sub, i_lt, i_le, i_eq, i_m1, il_le_0, il_ge_0, il_lt_0, il_gt_0, il_eq_0, il_le_1, il_ge_1, il_lt_1, il_gt_1, il_eq_1, il_le_2, il_ge_2, il_lt_2, il_gt_2, il_eq_2, il_le_3, il_ge_3, il_lt_3, il_gt_3, il_eq_3, il_le_4, il_ge_4, il_lt_4, il_gt_4, il_eq_4, il_le_5, il_ge_5, il_lt_5, il_gt_5, il_eq_5, il_le_6, il_ge_6, il_lt_6, il_gt_6, il_eq_6, il_le_7, il_ge_7, il_lt_7, il_gt_7, il_eq_7, il_le_8, il_ge_8, il_lt_8, il_gt_8, il_eq_8, il_le_12, il_ge_12, il_lt_12, il_gt_12, il_eq_12, il_le_16, il_ge_16, il_lt_16, il_gt_16, il_eq_16, il_le_20, il_ge_20, il_lt_20, il_gt_20, il_eq_20, il_le_21, il_ge_21, il_lt_21, il_gt_21, il_eq_21, il_le_40, il_ge_40, il_lt_40, il_gt_40, il_eq_40, il_le_100, il_ge_100, il_lt_100, il_gt_100, il_eq_100, il_le_120, il_ge_120, il_lt_120, il_gt_120, il_eq_120, il_le_200, il_ge_200, il_lt_200, il_gt_200, il_eq_200, il_le_400, il_ge_400, il_lt_400, il_gt_400, il_eq_400, il_le_700, il_ge_700, il_lt_700, il_gt_700, il_eq_700, esz, kg12, kv12_0, kg8, kv8_1, ki8, ki11, up_s, up_n]
      exact ⟨fun _ => q, fun c => by omega⟩
    | succ m ih =>
      intro o d w3 ho q
      obtain ⟨tt, tc⟩ := k_th_t E.1 hs1 (show o < n by omega)
      rw [u89_5]
      simp (decide := true) (disch := first | assumption | omega) only [↓u89_0, ↓u89_37, ↓u89_41, ↓u89_49, ↓x_nil, ↓x_om, ↓x_bipush_17, ↓x_istore_1, x_cl_i, x_cl_r, x_cl_n, x_cl_q, x_cl_0, x_cl_l, ↓x_iconst_0, ↓x_istore_2, ↓x_iload_2, ↓x_aload_0r, ↓x_aload_0n, ↓x_aload_0q, ↓x_getfield, ft_12_12, ft_12_86, ↓x_icmp_ge, ↓x_invokevirtual, mt_12_69, x_ps0, x_ps1, x_l40, x_l41, x_l42, x_l43, x_l44, ↓x_cv1, ↓x_astore_3r, ↓x_astore_3n, ↓x_astore_3q, ↓x_bipush_31, ↓x_iload_1, ↓x_imul, ↓x_aload_3r, ↓x_aload_3n, ↓x_aload_3q, ↓x_ifnonnull_n, ↓x_ifnonnull_r, ↓x_ifnonnull_q, ↓x_goto, mt_12_113, ↓x_cv0, ↓x_iadd, ↓x_iinc_2_1, ↓x_ireturn, rt89, Int.reduceAdd, Nat.reduceAdd, true_and, and_true, true_or, or_true, false_or, or_false, reduceCtorEq, false_and, and_false, and_self, or_self, false_implies, true_implies, not_true_eq_false, not_false_eq_true, implies_true, Option.some.injEq, i_add, i_a1, i_m8, i_m5, i_m401, i_40, i_80, i_r40, i_s1, i_am1, i_sub, i_lt, i_le, i_eq, i_m1, il_le_0, il_ge_0, il_lt_0, il_gt_0, il_eq_0, il_le_1, il_ge_1, il_lt_1, il_gt_1, il_eq_1, il_le_2, il_ge_2, il_lt_2, il_gt_2, il_eq_2, il_le_3, il_ge_3, il_lt_3, il_gt_3, il_eq_3, il_le_4, il_ge_4, il_lt_4, il_gt_4, il_eq_4, il_le_5, il_ge_5, il_lt_5, il_gt_5, il_eq_5, il_le_6, il_ge_6, il_lt_6, il_gt_6, il_eq_6, il_le_7, il_ge_7, il_lt_7, il_gt_7, il_eq_7, il_le_8, il_ge_8, il_lt_8, il_gt_8, il_eq_8, il_le_12, il_ge_12, il_lt_12, il_gt_12, il_eq_12, il_le_16, il_ge_16, il_lt_16, il_gt_16, il_eq_16, il_le_20, il_ge_20, il_lt_20, il_gt_20, il_eq_20, il_le_21, il_ge_21, il_lt_21, il_gt_21, il_eq_21, il_le_40, il_ge_40, il_lt_40, il_gt_40, il_eq_40, il_le_100, il_ge_100, il_lt_100, il_gt_100, il_eq_100, il_le_120, il_ge_120, il_lt_120, il_gt_120, il_eq_120, il_le_200, il_ge_200, il_lt_200, il_gt_200, il_eq_200, il_le_400, il_ge_400, il_lt_400, il_gt_400, il_eq_400, il_le_700, il_ge_700, il_lt_700, il_gt_700, il_eq_700, esz, kg12, kv12_0, kg8, kv8_1, ki8, ki11, up_s, up_n]
      refine ⟨fun c => by omega, fun _ => h_thingS hg E.1 hs1 (by omega) ?_⟩
      simp (decide := true) (disch := first | assumption | omega) only [↓u89_0, ↓u89_37, ↓u89_41, ↓u89_49, ↓x_nil, ↓x_om, ↓x_bipush_17, ↓x_istore_1, x_cl_i, x_cl_r, x_cl_n, x_cl_q, x_cl_0, x_cl_l, ↓x_iconst_0, ↓x_istore_2, ↓x_iload_2, ↓x_aload_0r, ↓x_aload_0n, ↓x_aload_0q, ↓x_getfield, ft_12_12, ft_12_86, ↓x_icmp_ge, ↓x_invokevirtual, mt_12_69, x_ps0, x_ps1, x_l40, x_l41, x_l42, x_l43, x_l44, ↓x_cv1, ↓x_astore_3r, ↓x_astore_3n, ↓x_astore_3q, ↓x_bipush_31, ↓x_iload_1, ↓x_imul, ↓x_aload_3r, ↓x_aload_3n, ↓x_aload_3q, ↓x_ifnonnull_n, ↓x_ifnonnull_r, ↓x_ifnonnull_q, ↓x_goto, mt_12_113, ↓x_cv0, ↓x_iadd, ↓x_iinc_2_1, ↓x_ireturn, rt89, Int.reduceAdd, Nat.reduceAdd, true_and, and_true, true_or, or_true, false_or, or_false, reduceCtorEq, false_and, and_false, and_self, or_self, false_implies, true_implies, not_true_eq_false, not_false_eq_true, implies_true, Option.some.injEq, i_add, i_a1, i_m8, i_m5, i_m401, i_40, i_80, i_r40, i_s1, i_am1, i_sub, i_lt, i_le, i_eq, i_m1, il_le_0, il_ge_0, il_lt_0, il_gt_0, il_eq_0, il_le_1, il_ge_1, il_lt_1, il_gt_1, il_eq_1, il_le_2, il_ge_2, il_lt_2, il_gt_2, il_eq_2, il_le_3, il_ge_3, il_lt_3, il_gt_3, il_eq_3, il_le_4, il_ge_4, il_lt_4, il_gt_4, il_eq_4, il_le_5, il_ge_5, il_lt_5, il_gt_5, il_eq_5, il_le_6, il_ge_6, il_lt_6, il_gt_6, il_eq_6, il_le_7, il_ge_7, il_lt_7, il_gt_7, il_eq_7, il_le_8, il_ge_8, il_lt_8, il_gt_8, il_eq_8, il_le_12, il_ge_12, il_lt_12, il_gt_12, il_eq_12, il_le_16, il_ge_16, il_lt_16, il_gt_16, il_eq_16, il_le_20, il_ge_20, il_lt_20, il_gt_20, il_eq_20, il_le_21, il_ge_21, il_lt_21, il_gt_21, il_eq_21, il_le_40, il_ge_40, il_lt_40, il_gt_40, il_eq_40, il_le_100, il_ge_100, il_lt_100, il_gt_100, il_eq_100, il_le_120, il_ge_120, il_lt_120, il_gt_120, il_eq_120, il_le_200, il_ge_200, il_lt_200, il_gt_200, il_eq_200, il_le_400, il_ge_400, il_lt_400, il_gt_400, il_eq_400, il_le_700, il_ge_700, il_lt_700, il_gt_700, il_eq_700, kg12, kv12_0, kg8, kv8_1, ki8, ki11, up_s, up_n]
      refine h_summary hg tt tc (fun z4 => ?_) ?_
      · obtain ⟨z, z1, z2, _⟩ := (hS1 o (by omega)).2.2.2.1.1 (by rw [← (hS1 o (by omega)).1]; exact z4)
        exact ⟨z, z1, z2⟩
      rw [dig_ok (F := S.1) hS1 (by omega) n40 (Or.inl rfl), Nat.zero_add]
      simp (decide := true) (disch := first | assumption | omega) only [↓u89_0, ↓u89_37, ↓u89_41, ↓u89_49, ↓x_nil, ↓x_om, ↓x_bipush_17, ↓x_istore_1, x_cl_i, x_cl_r, x_cl_n, x_cl_q, x_cl_0, x_cl_l, ↓x_iconst_0, ↓x_istore_2, ↓x_iload_2, ↓x_aload_0r, ↓x_aload_0n, ↓x_aload_0q, ↓x_getfield, ft_12_12, ft_12_86, ↓x_icmp_ge, ↓x_invokevirtual, mt_12_69, x_ps0, x_ps1, x_l40, x_l41, x_l42, x_l43, x_l44, ↓x_cv1, ↓x_astore_3r, ↓x_astore_3n, ↓x_astore_3q, ↓x_bipush_31, ↓x_iload_1, ↓x_imul, ↓x_aload_3r, ↓x_aload_3n, ↓x_aload_3q, ↓x_ifnonnull_n, ↓x_ifnonnull_r, ↓x_ifnonnull_q, ↓x_goto, mt_12_113, ↓x_cv0, ↓x_iadd, ↓x_iinc_2_1, ↓x_ireturn, rt89, Int.reduceAdd, Nat.reduceAdd, true_and, and_true, true_or, or_true, false_or, or_false, reduceCtorEq, false_and, and_false, and_self, or_self, false_implies, true_implies, not_true_eq_false, not_false_eq_true, implies_true, Option.some.injEq, i_add, i_a1, i_m8, i_m5, i_m401, i_40, i_80, i_r40, i_s1, i_am1, i_sub, i_lt, i_le, i_eq, i_m1, il_le_0, il_ge_0, il_lt_0, il_gt_0, il_eq_0, il_le_1, il_ge_1, il_lt_1, il_gt_1, il_eq_1, il_le_2, il_ge_2, il_lt_2, il_gt_2, il_eq_2, il_le_3, il_ge_3, il_lt_3, il_gt_3, il_eq_3, il_le_4, il_ge_4, il_lt_4, il_gt_4, il_eq_4, il_le_5, il_ge_5, il_lt_5, il_gt_5, il_eq_5, il_le_6, il_ge_6, il_lt_6, il_gt_6, il_eq_6, il_le_7, il_ge_7, il_lt_7, il_gt_7, il_eq_7, il_le_8, il_ge_8, il_lt_8, il_gt_8, il_eq_8, il_le_12, il_ge_12, il_lt_12, il_gt_12, il_eq_12, il_le_16, il_ge_16, il_lt_16, il_gt_16, il_eq_16, il_le_20, il_ge_20, il_lt_20, il_gt_20, il_eq_20, il_le_21, il_ge_21, il_lt_21, il_gt_21, il_eq_21, il_le_40, il_ge_40, il_lt_40, il_gt_40, il_eq_40, il_le_100, il_ge_100, il_lt_100, il_gt_100, il_eq_100, il_le_120, il_ge_120, il_lt_120, il_gt_120, il_eq_120, il_le_200, il_ge_200, il_lt_200, il_gt_200, il_eq_200, il_le_400, il_ge_400, il_lt_400, il_gt_400, il_eq_400, il_le_700, il_ge_700, il_lt_700, il_gt_700, il_eq_700, kg12, kv12_0, kg8, kv8_1, ki8, ki11, up_s, up_n]
      exact ih (o + 1) _ _ (by omega) q
  simp (decide := true) (disch := first | assumption | omega) only [↓u89_0, ↓u89_37, ↓u89_41, ↓u89_49, ↓x_nil, ↓x_om, ↓x_bipush_17, ↓x_istore_1, x_cl_i, x_cl_r, x_cl_n, x_cl_q, x_cl_0, x_cl_l, ↓x_iconst_0, ↓x_istore_2, ↓x_iload_2, ↓x_aload_0r, ↓x_aload_0n, ↓x_aload_0q, ↓x_getfield, ft_12_12, ft_12_86, ↓x_icmp_ge, ↓x_invokevirtual, mt_12_69, x_ps0, x_ps1, x_l40, x_l41, x_l42, x_l43, x_l44, ↓x_cv1, ↓x_astore_3r, ↓x_astore_3n, ↓x_astore_3q, ↓x_bipush_31, ↓x_iload_1, ↓x_imul, ↓x_aload_3r, ↓x_aload_3n, ↓x_aload_3q, ↓x_ifnonnull_n, ↓x_ifnonnull_r, ↓x_ifnonnull_q, ↓x_goto, mt_12_113, ↓x_cv0, ↓x_iadd, ↓x_iinc_2_1, ↓x_ireturn, rt89, Int.reduceAdd, Nat.reduceAdd, true_and, and_true, true_or, or_true, false_or, or_false, reduceCtorEq, false_and, and_false, and_self, or_self, false_implies, true_implies, not_true_eq_false, not_false_eq_true, implies_true, Option.some.injEq, i_add, i_a1, i_m8, i_m5, i_m401, i_40, i_80, i_r40, i_s1, i_am1, i_sub, i_lt, i_le, i_eq, i_m1, il_le_0, il_ge_0, il_lt_0, il_gt_0, il_eq_0, il_le_1, il_ge_1, il_lt_1, il_gt_1, il_eq_1, il_le_2, il_ge_2, il_lt_2, il_gt_2, il_eq_2, il_le_3, il_ge_3, il_lt_3, il_gt_3, il_eq_3, il_le_4, il_ge_4, il_lt_4, il_gt_4, il_eq_4, il_le_5, il_ge_5, il_lt_5, il_gt_5, il_eq_5, il_le_6, il_ge_6, il_lt_6, il_gt_6, il_eq_6, il_le_7, il_ge_7, il_lt_7, il_gt_7, il_eq_7, il_le_8, il_ge_8, il_lt_8, il_gt_8, il_eq_8, il_le_12, il_ge_12, il_lt_12, il_gt_12, il_eq_12, il_le_16, il_ge_16, il_lt_16, il_gt_16, il_eq_16, il_le_20, il_ge_20, il_lt_20, il_gt_20, il_eq_20, il_le_21, il_ge_21, il_lt_21, il_gt_21, il_eq_21, il_le_40, il_ge_40, il_lt_40, il_gt_40, il_eq_40, il_le_100, il_ge_100, il_lt_100, il_gt_100, il_eq_100, il_le_120, il_ge_120, il_lt_120, il_gt_120, il_eq_120, il_le_200, il_ge_200, il_lt_200, il_gt_200, il_eq_200, il_le_400, il_ge_400, il_lt_400, il_gt_400, il_eq_400, il_le_700, il_ge_700, il_lt_700, il_gt_700, il_eq_700, kg12, kv12_0, kg8, kv8_1, ki8, ki11, up_s, up_n]
  exact lp n 0 17 _ (by omega) q
end UQ
