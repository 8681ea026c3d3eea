/-! rest, as a call -/
section US
variable {g : e_G} {own : Nat} {r0 : Nat × Nat}
theorem t_rest (hg : e_GK g) (hA : e_AK g) : TW g own r0 107 166 [] := by
  intro c Z P U r S B Ψ hc hV q
  have hV0 := hV
  obtain ⟨N, n, b, l, nl, nw, nr, na, ne, ch, T, hI, hK, hR⟩ := hV
  obtain ⟨E, kLg, _, _, kDe, kEn, kAs, kLk, kVe, kMi⟩ := hK
  have hK : K_all N own n b l nl nw nr ne ch 0 Z P U r S := ⟨E, kLg, ‹_›, ‹_›, kDe, kEn, kAs, kLk, kVe, kMi⟩
  have tO := E.2.1
  obtain ⟨a1, a2, a3, a4, a5, a6, a7, a8, a9, a10⟩ := E.1.hse tO
  have nr11 : nr ≤ 1100 := by
    obtain ⟨p1, p2, p3, _⟩ := hI.2.2.2.2.2.2.1
    omega
  have len15 : (U.2.1 (own + 15)).length = l := by rw [kDe.2.2.2.2.2.1, List.length_map, v_lvl]
  have ell : S.1 45 = nI l := hI.2.1.2.2.2.2.1
  have l12 := hI.2.1.2.2.2.2.2.1
  obtain ⟨qr, qr1, qr2⟩ := hI.2.2.2.2.2.1.2.2.2.2.2.2.2.2.1
  have mrs : P.1 206 (own + 25) = nI qr := (mi_iff.mp kMi).1 (206, 25, 16) (by decide) |>.trans qr2
  have rin : vp_in (S.1 13) 6000 := by rw [hI.1.1]; exact vp_in_nI (by omega) (by omega)
  refine e_call (cd := cd107) hg ok107 (by rw [mL107]; exact Nat.le_of_ble_eq_true rfl) ?_
  rw [mL107]
  simp only [x_ini, x_inr, x_inn, x_inq, x_inl, x_in0, x_rp0, x_rps, Nat.reduceSub]
  simp (decide := true) (disch := first | assumption | omega) only [↓u107_0, ↓u107_13, ↓u107_28, ↓x_nil, ↓x_om, ↓x_aload_0r, ↓x_aload_0n, ↓x_aload_0q, ↓x_getfield, ft_12_35, ↓x_invokevirtual, mt_12_79, x_ps0, x_ps1, x_l40, x_l41, x_l42, x_l43, x_l44, ↓x_cv0, ↓x_if_ne, ↓x_bipush_m2, ↓x_ireturn, rt107, ft_12_58, ft_12_263, ↓x_bipush_100, ↓x_icmp_lt, ↓x_bipush_m3, ↓x_dup_i, ↓x_dup_r, ↓x_dup_n, ↓x_iconst_1, ↓x_iadd, ↓x_putfield, x_fit0, x_fit1, x_fit2r, x_fit2n, x_fit2q, ft_12_44, ↓x_new, ct_12_101, ↓x_bipush_6, ↓x_iconst_0, ↓x_iconst_m1, ↓x_invokespecial, mt_12_103, ↓x_ci7_2, mt_12_106, ↓x_cv1, mt_12_266, mt_12_176, Int.reduceAdd, Nat.reduceAdd, true_and, and_true, true_or, or_true, false_or, or_false, reduceCtorEq, false_and, and_false, and_self, or_self, false_implies, true_implies, not_true_eq_false, not_false_eq_true, implies_true, Option.some.injEq, mrs, kg12, kv12_5, kiL30, kiL31, kiL32, kv12_9, kg10, kv10_6, kw10_6, k_rs, k_rn, k_r2, k_c2, kv12_7, ki7, ki4, up_s, up_n]
  refine l_empty hA (k_tL30 a6) (E.1.cap _).1 ?_
  rw [len15]
  by_cases l0 : l = 0
  rotate_left
  · rw [if_neg l0]
    simp (decide := true) (disch := first | assumption | omega) only [↓u107_0, ↓u107_13, ↓u107_28, ↓x_nil, ↓x_om, ↓x_aload_0r, ↓x_aload_0n, ↓x_aload_0q, ↓x_getfield, ft_12_35, ↓x_invokevirtual, mt_12_79, x_ps0, x_ps1, x_l40, x_l41, x_l42, x_l43, x_l44, ↓x_cv0, ↓x_if_ne, ↓x_bipush_m2, ↓x_ireturn, rt107, ft_12_58, ft_12_263, ↓x_bipush_100, ↓x_icmp_lt, ↓x_bipush_m3, ↓x_dup_i, ↓x_dup_r, ↓x_dup_n, ↓x_iconst_1, ↓x_iadd, ↓x_putfield, x_fit0, x_fit1, x_fit2r, x_fit2n, x_fit2q, ft_12_44, ↓x_new, ct_12_101, ↓x_bipush_6, ↓x_iconst_0, ↓x_iconst_m1, ↓x_invokespecial, mt_12_103, ↓x_ci7_2, mt_12_106, ↓x_cv1, mt_12_266, mt_12_176, Int.reduceAdd, Nat.reduceAdd, true_and, and_true, true_or, or_true, false_or, or_false, reduceCtorEq, false_and, and_false, and_self, or_self, false_implies, true_implies, not_true_eq_false, not_false_eq_true, implies_true, Option.some.injEq, mrs, kg12, kv12_5, kiL30, kiL31, kiL32, kv12_9, kg10, kv10_6, kw10_6, k_rs, k_rn, k_r2, k_c2, kv12_7, ki7, ki4, up_s, up_n]
    refine q (-2) Z P U r S (hV0.next hc) (fun M h Φ hq => c_rest hg rin ?_)
    have : y_rest (S.1, S.2) = (-2, S) := by unfold y_rest; dsimp only; rw [ell, if_pos (by rw [show (0 : Int32) = nI 0 from rfl, i_lt (by omega) (by omega)]; omega)]
    rw [this]; exact hq
  rw [if_pos l0]
  have c0 : ¬ 0 < S.1 45 := by rw [ell, l0]; decide
  simp (decide := true) (disch := first | assumption | omega) only [↓u107_0, ↓u107_13, ↓u107_28, ↓x_nil, ↓x_om, ↓x_aload_0r, ↓x_aload_0n, ↓x_aload_0q, ↓x_getfield, ft_12_35, ↓x_invokevirtual, mt_12_79, x_ps0, x_ps1, x_l40, x_l41, x_l42, x_l43, x_l44, ↓x_cv0, ↓x_if_ne, ↓x_bipush_m2, ↓x_ireturn, rt107, ft_12_58, ft_12_263, ↓x_bipush_100, ↓x_icmp_lt, ↓x_bipush_m3, ↓x_dup_i, ↓x_dup_r, ↓x_dup_n, ↓x_iconst_1, ↓x_iadd, ↓x_putfield, x_fit0, x_fit1, x_fit2r, x_fit2n, x_fit2q, ft_12_44, ↓x_new, ct_12_101, ↓x_bipush_6, ↓x_iconst_0, ↓x_iconst_m1, ↓x_invokespecial, mt_12_103, ↓x_ci7_2, mt_12_106, ↓x_cv1, mt_12_266, mt_12_176, Int.reduceAdd, Nat.reduceAdd, true_and, and_true, true_or, or_true, false_or, or_false, reduceCtorEq, false_and, and_false, and_self, or_self, false_implies, true_implies, not_true_eq_false, not_false_eq_true, implies_true, Option.some.injEq, mrs, kg12, kv12_5, kiL30, kiL31, kiL32, kv12_9, kg10, kv10_6, kw10_6, k_rs, k_rn, k_r2, k_c2, kv12_7, ki7, ki4, up_s, up_n]
  refine ⟨fun c1 => ?_, fun c1 => ?_⟩
  rotate_left
  · have e100 : S.1 16 = 100 := by
      rw [show (100 : Int32) = nI 100 from rfl, i_lt (by omega) (by omega)] at c1
      rw [qr2, show qr = 100 by omega]; rfl
    refine q (-3) Z P U r S (hV0.next hc) (fun M h Φ hq => c_rest hg rin ?_)
    have : y_rest (S.1, S.2) = (-3, S) := by unfold y_rest; dsimp only; rw [if_neg c0, if_pos e100]
    rw [this]; exact hq
  have q100 : qr < 100 := by
    rw [show (100 : Int32) = nI 100 from rfl, i_lt (by omega) (by omega)] at c1
    exact c1
  have ne100 : ¬ S.1 16 = 100 := by rw [qr2, show (100 : Int32) = nI 100 from rfl, i_eq (by omega) (by omega)]; omega
  have tn := (E.2.2.1 r.1 (Nat.le_refl _)).1
  simp (decide := true) (disch := first | assumption | omega) only [↓u107_0, ↓u107_13, ↓u107_28, ↓x_nil, ↓x_om, ↓x_aload_0r, ↓x_aload_0n, ↓x_aload_0q, ↓x_getfield, ft_12_35, ↓x_invokevirtual, mt_12_79, x_ps0, x_ps1, x_l40, x_l41, x_l42, x_l43, x_l44, ↓x_cv0, ↓x_if_ne, ↓x_bipush_m2, ↓x_ireturn, rt107, ft_12_58, ft_12_263, ↓x_bipush_100, ↓x_icmp_lt, ↓x_bipush_m3, ↓x_dup_i, ↓x_dup_r, ↓x_dup_n, ↓x_iconst_1, ↓x_iadd, ↓x_putfield, x_fit0, x_fit1, x_fit2r, x_fit2n, x_fit2q, ft_12_44, ↓x_new, ct_12_101, ↓x_bipush_6, ↓x_iconst_0, ↓x_iconst_m1, ↓x_invokespecial, mt_12_103, ↓x_ci7_2, mt_12_106, ↓x_cv1, mt_12_266, mt_12_176, Int.reduceAdd, Nat.reduceAdd, true_and, and_true, true_or, or_true, false_or, or_false, reduceCtorEq, false_and, and_false, and_self, or_self, false_implies, true_implies, not_true_eq_false, not_false_eq_true, implies_true, Option.some.injEq, mrs, k_alO, nf7, k_c2, kg12, kv12_5, kiL30, kiL31, kiL32, kv12_9, kg10, kv10_6, kw10_6, k_rs, k_rn, k_r2, k_c2, kv12_7, ki7, ki4, up_s, up_n]
  refine h_newRow hg tn ?_
  have w2 := E.1.leaf (tg := 8) tn (by omega)
  have z1 : ∀ a, Z.1 a ≠ 0 → (k_zt Z r.1 8).1 a = Z.1 a := fun a h => k_ztn (by have := E.lt (a := a) h; omega)
  have d0 : (k_zt Z r.1 8).1 own = 13 := by rw [z1 own (by rw [tO]; decide)]; exact tO
  have d8 : (k_zt Z r.1 8).1 (own + 17) = 5 := by rw [z1 _ (by rw [a8]; decide)]; exact a8
  have dm : (k_zt Z r.1 8).1 r.1 = 8 := k_zts
  have l18 : (U.2.1 (own + 18)).length = nr := kLg.1
  simp (decide := true) (disch := first | assumption | omega) only [↓u107_0, ↓u107_13, ↓u107_28, ↓x_nil, ↓x_om, ↓x_aload_0r, ↓x_aload_0n, ↓x_aload_0q, ↓x_getfield, ft_12_35, ↓x_invokevirtual, mt_12_79, x_ps0, x_ps1, x_l40, x_l41, x_l42, x_l43, x_l44, ↓x_cv0, ↓x_if_ne, ↓x_bipush_m2, ↓x_ireturn, rt107, ft_12_58, ft_12_263, ↓x_bipush_100, ↓x_icmp_lt, ↓x_bipush_m3, ↓x_dup_i, ↓x_dup_r, ↓x_dup_n, ↓x_iconst_1, ↓x_iadd, ↓x_putfield, x_fit0, x_fit1, x_fit2r, x_fit2n, x_fit2q, ft_12_44, ↓x_new, ct_12_101, ↓x_bipush_6, ↓x_iconst_0, ↓x_iconst_m1, ↓x_invokespecial, mt_12_103, ↓x_ci7_2, mt_12_106, ↓x_cv1, mt_12_266, mt_12_176, Int.reduceAdd, Nat.reduceAdd, true_and, and_true, true_or, or_true, false_or, or_false, reduceCtorEq, false_and, and_false, and_self, or_self, false_implies, true_implies, not_true_eq_false, not_false_eq_true, implies_true, Option.some.injEq, mrs, k_alO, nf7, k_c2, kg12, kv12_5, kiL30, kiL31, kiL32, kv12_9, kg10, kv10_6, kw10_6, k_rs, k_rn, k_r2, k_c2, kv12_7, ki7, ki4, up_s, up_n]
  refine h_append hg hA w2 d8 dm (by rw [show own + 17 + 1 = own + 18 from rfl]; omega) (fun C2 r2 hr2 => ?_)
  have E2 := E.row (s' := r.2 + 10) (fun y hy => hy) hr2
  rw [show own + 17 + 1 = own + 18 from rfl]
  have ro2 : k_ro N 1 10 Z.2.1 r (k_zc (k_zt Z r.1 8) C2).2.1 r2 := ((k_ro.new 1 10).tr hr2).le (by omega) (by omega)
  have fZ1 : ∀ a, Z.1 a ≠ 0 → (k_zc (k_zt Z r.1 8) C2).1 a = Z.1 a := fun a h => z1 a h
  have fZ2 : ∀ a, a < r.1 → (k_zc (k_zt Z r.1 8) C2).2.2 a = Z.2.2 a := fun a _ => rfl
  generalize k_zc (k_zt Z r.1 8) C2 = Z2 at *
  have b8 : Z2.1 (own + 17) = 5 := (E2.1.hse E2.2.1).2.2.2.2.2.2.2.1
  have tO2 : Z2.1 own = 13 := E2.2.1
  have u18 : (k_wl U (own + 18) (U.2.1 (own + 18) ++ [r.1])).2.1 (own + 18) = U.2.1 (own + 18) ++ [r.1] := k_ls
  have uO : ∀ a, a ≠ own + 18 → (k_wl U (own + 18) (U.2.1 (own + 18) ++ [r.1])).2.1 a = U.2.1 a := fun a ha => k_ln ha
  have u22 : (k_wl U (own + 18) (U.2.1 (own + 18) ++ [r.1])).2.2 = U.2.2 := rfl
  have u1 : (k_wl U (own + 18) (U.2.1 (own + 18) ++ [r.1])).1 = U.1 := rfl
  generalize k_wl U (own + 18) (U.2.1 (own + 18) ++ [r.1]) = U2 at *
  have len2 : (U2.2.1 (own + 18)).length = nr + 1 := by rw [u18, List.length_append, l18, List.length_singleton]
  simp (decide := true) (disch := first | assumption | omega) only [↓u107_0, ↓u107_13, ↓u107_28, ↓x_nil, ↓x_om, ↓x_aload_0r, ↓x_aload_0n, ↓x_aload_0q, ↓x_getfield, ft_12_35, ↓x_invokevirtual, mt_12_79, x_ps0, x_ps1, x_l40, x_l41, x_l42, x_l43, x_l44, ↓x_cv0, ↓x_if_ne, ↓x_bipush_m2, ↓x_ireturn, rt107, ft_12_58, ft_12_263, ↓x_bipush_100, ↓x_icmp_lt, ↓x_bipush_m3, ↓x_dup_i, ↓x_dup_r, ↓x_dup_n, ↓x_iconst_1, ↓x_iadd, ↓x_putfield, x_fit0, x_fit1, x_fit2r, x_fit2n, x_fit2q, ft_12_44, ↓x_new, ct_12_101, ↓x_bipush_6, ↓x_iconst_0, ↓x_iconst_m1, ↓x_invokespecial, mt_12_103, ↓x_ci7_2, mt_12_106, ↓x_cv1, mt_12_266, mt_12_176, Int.reduceAdd, Nat.reduceAdd, true_and, and_true, true_or, or_true, false_or, or_false, reduceCtorEq, false_and, and_false, and_self, or_self, false_implies, true_implies, not_true_eq_false, not_false_eq_true, implies_true, Option.some.injEq, kg12, kv12_5, kiL30, kiL31, kiL32, kv12_9, kg10, kv10_6, kw10_6, k_rs, k_rn, k_r2, k_c2, kv12_7, ki7, ki4, up_s, up_n]
  refine h_forceAll hg hA (n := nr + 1) E2.1 b8 len2 ?_
  simp (decide := true) (disch := first | assumption | omega) only [↓u107_0, ↓u107_13, ↓u107_28, ↓x_nil, ↓x_om, ↓x_aload_0r, ↓x_aload_0n, ↓x_aload_0q, ↓x_getfield, ft_12_35, ↓x_invokevirtual, mt_12_79, x_ps0, x_ps1, x_l40, x_l41, x_l42, x_l43, x_l44, ↓x_cv0, ↓x_if_ne, ↓x_bipush_m2, ↓x_ireturn, rt107, ft_12_58, ft_12_263, ↓x_bipush_100, ↓x_icmp_lt, ↓x_bipush_m3, ↓x_dup_i, ↓x_dup_r, ↓x_dup_n, ↓x_iconst_1, ↓x_iadd, ↓x_putfield, x_fit0, x_fit1, x_fit2r, x_fit2n, x_fit2q, ft_12_44, ↓x_new, ct_12_101, ↓x_bipush_6, ↓x_iconst_0, ↓x_iconst_m1, ↓x_invokespecial, mt_12_103, ↓x_ci7_2, mt_12_106, ↓x_cv1, mt_12_266, mt_12_176, Int.reduceAdd, Nat.reduceAdd, true_and, and_true, true_or, or_true, false_or, or_false, reduceCtorEq, false_and, and_false, and_self, or_self, false_implies, true_implies, not_true_eq_false, not_false_eq_true, implies_true, Option.some.injEq, kg12, kv12_5, kiL30, kiL31, kiL32, kv12_9, kg10, kv10_6, kw10_6, k_rs, k_rn, k_r2, k_c2, kv12_7, ki7, ki4, up_s, up_n]
  refine h_logSize hg hA E2.1 b8 ?_
  rw [show own + 17 + 1 = own + 18 from rfl, len2]
  simp (decide := true) (disch := first | assumption | omega) only [↓u107_0, ↓u107_13, ↓u107_28, ↓x_nil, ↓x_om, ↓x_aload_0r, ↓x_aload_0n, ↓x_aload_0q, ↓x_getfield, ft_12_35, ↓x_invokevirtual, mt_12_79, x_ps0, x_ps1, x_l40, x_l41, x_l42, x_l43, x_l44, ↓x_cv0, ↓x_if_ne, ↓x_bipush_m2, ↓x_ireturn, rt107, ft_12_58, ft_12_263, ↓x_bipush_100, ↓x_icmp_lt, ↓x_bipush_m3, ↓x_dup_i, ↓x_dup_r, ↓x_dup_n, ↓x_iconst_1, ↓x_iadd, ↓x_putfield, x_fit0, x_fit1, x_fit2r, x_fit2n, x_fit2q, ft_12_44, ↓x_new, ct_12_101, ↓x_bipush_6, ↓x_iconst_0, ↓x_iconst_m1, ↓x_invokespecial, mt_12_103, ↓x_ci7_2, mt_12_106, ↓x_cv1, mt_12_266, mt_12_176, Int.reduceAdd, Nat.reduceAdd, true_and, and_true, true_or, or_true, false_or, or_false, reduceCtorEq, false_and, and_false, and_self, or_self, false_implies, true_implies, not_true_eq_false, not_false_eq_true, implies_true, Option.some.injEq, kg12, kv12_5, kiL30, kiL31, kiL32, kv12_9, kg10, kv10_6, kw10_6, k_rs, k_rn, k_r2, k_c2, kv12_7, ki7, ki4, up_s, up_n]
  -- the reference
  have eS : y_rest (S.1, S.2) = ((y_fA (y_put 6 0 (-1) (-1) 0 0 0 (-1) (va_up S.1 16 (S.1 16 + 1), S.2))).1 13, y_fA (y_put 6 0 (-1) (-1) 0 0 0 (-1) (va_up S.1 16 (S.1 16 + 1), S.2))) := by unfold y_rest; dsimp only; rw [if_neg c0, if_neg ne100]
  have h0 : (va_up S.1 16 (S.1 16 + 1), S.2).1 13 = nI nr := by dsimp only; rw [up_n (by decide)]; exact hI.1.1
  have hq := yput_row h0 (by omega) (w := 6) (t := 0) (o := -1) (k := -1) (a := 0) (b := 0) (c := 0) (u := -1)
  have er : (y_put 6 0 (-1) (-1) 0 0 0 (-1) (va_up S.1 16 (S.1 16 + 1), S.2)).1 13 = nI (nr + 1) := yput_r h0
  have s1 : (y_fA (y_put 6 0 (-1) (-1) 0 0 0 (-1) (va_up S.1 16 (S.1 16 + 1), S.2))).1 13 = nI (nr + 1) := by unfold y_fA; dsimp only; rw [up_n (by decide), up_n (by decide)]; exact er
  have s2 : (y_fA (y_put 6 0 (-1) (-1) 0 0 0 (-1) (va_up S.1 16 (S.1 16 + 1), S.2))).1 14 = nI (nr + 1) := by unfold y_fA; dsimp only; rw [up_n (by decide), up_s]; exact er
  have s3 : (y_fA (y_put 6 0 (-1) (-1) 0 0 0 (-1) (va_up S.1 16 (S.1 16 + 1), S.2))).1 15 = 0 := by unfold y_fA; dsimp only; rw [up_s]
  have s4 : (y_fA (y_put 6 0 (-1) (-1) 0 0 0 (-1) (va_up S.1 16 (S.1 16 + 1), S.2))).1 16 = nI (qr + 1) := by unfold y_fA; dsimp only; rw [up_n (by decide), up_n (by decide), yput_F (by decide)]; dsimp only; rw [up_s, qr2, i_a1]
  have s5 : ∀ f, f ∉ [13, 14, 15, 16] → (y_fA (y_put 6 0 (-1) (-1) 0 0 0 (-1) (va_up S.1 16 (S.1 16 + 1), S.2))).1 f = S.1 f := fun f hf => by unfold y_fA; dsimp only; rw [up_n (nmem hf (by decide)), up_n (nmem hf (by decide)), yput_F (nmem hf (by decide))]; dsimp only; rw [up_n (nmem hf (by decide))]
  have s6 : ∀ f, f ∉ fp_R → (y_fA (y_put 6 0 (-1) (-1) 0 0 0 (-1) (va_up S.1 16 (S.1 16 + 1), S.2))).2 f = S.2 f := fun f hf => yput_A hf
  have s7 : rowAt (y_fA (y_put 6 0 (-1) (-1) 0 0 0 (-1) (va_up S.1 16 (S.1 16 + 1), S.2))).2 nr 6 0 (-1) (-1) 0 0 0 (-1) := hq.1
  have s8 : rw_eq nr S.2 (y_fA (y_put 6 0 (-1) (-1) 0 0 0 (-1) (va_up S.1 16 (S.1 16 + 1), S.2))).2 := fun j hj => hq.2 j (by omega)
  have ref : ∀ M h (Φ : e_Q), Φ (some (.int (nI (nr + 1)))) (m_H M (y_fA (y_put 6 0 (-1) (-1) 0 0 0 (-1) (va_up S.1 16 (S.1 16 + 1), S.2))).1 (y_fA (y_put 6 0 (-1) (-1) 0 0 0 (-1) (va_up S.1 16 (S.1 16 + 1), S.2))).2 h) → e_Sc g 166 (.ref M :: []) (m_H M S.1 S.2 h) Φ := fun M h Φ hq => c_rest hg rin (by rw [eS]; dsimp only; rw [s1]; exact hq)
  clear hq er h0 eS
  generalize y_fA (y_put 6 0 (-1) (-1) 0 0 0 (-1) (va_up S.1 16 (S.1 16 + 1), S.2)) = S3 at *
  -- the class
  have pP : ∀ f a, a < r.1 → f ∉ [81, 82, 206] → (k_fAll (k_set1 (k_wr P 206 (own + 25) (nI qr + 1)) r.1 (k_rwF 6 0 (-1) (-1) 0 0 0 (-1))) (own + 17) (nr + 1)).1 f a = P.1 f a := fun f a ha hf => by
    unfold k_fAll
    rw [k_rn (nmem hf (by decide)), k_rn (nmem hf (by decide)), k_s1n (by omega), k_rn (nmem hf (by decide))]
  have pr : (k_fAll (k_set1 (k_wr P 206 (own + 25) (nI qr + 1)) r.1 (k_rwF 6 0 (-1) (-1) 0 0 0 (-1))) (own + 17) (nr + 1)).1 206 (own + 25) = nI (qr + 1) := by
    have : own + 25 < r.1 := E.lt (by rw [a10]; decide)
    unfold k_fAll
    rw [k_rn (by decide), k_rn (by decide), k_s1n (by omega), k_rs, i_a1]
  have pf : (k_fAll (k_set1 (k_wr P 206 (own + 25) (nI qr + 1)) r.1 (k_rwF 6 0 (-1) (-1) 0 0 0 (-1))) (own + 17) (nr + 1)).1 81 (own + 17) = nI (nr + 1) := by unfold k_fAll; rw [k_rn (by decide), k_rs]
  have pe : (k_fAll (k_set1 (k_wr P 206 (own + 25) (nI qr + 1)) r.1 (k_rwF 6 0 (-1) (-1) 0 0 0 (-1))) (own + 17) (nr + 1)).1 82 (own + 17) = 0 := by unfold k_fAll; rw [k_rs]
  have px : ∀ f, f ≠ 81 → f ≠ 82 → (k_fAll (k_set1 (k_wr P 206 (own + 25) (nI qr + 1)) r.1 (k_rwF 6 0 (-1) (-1) 0 0 0 (-1))) (own + 17) (nr + 1)).1 f r.1 = k_rwF 6 0 (-1) (-1) 0 0 0 (-1) f := fun f h1 h2 => by unfold k_fAll; rw [k_rn h2, k_rn h1, k_s1s]
  have p2 : (k_fAll (k_set1 (k_wr P 206 (own + 25) (nI qr + 1)) r.1 (k_rwF 6 0 (-1) (-1) 0 0 0 (-1))) (own + 17) (nr + 1)).2 = P.2 := rfl
  generalize k_fAll (k_set1 (k_wr P 206 (own + 25) (nI qr + 1)) r.1 (k_rwF 6 0 (-1) (-1) 0 0 0 (-1))) (own + 17) (nr + 1) = P3 at *
  have hM3 : I_mi n (nr + 1) S3 := by
    obtain ⟨m1, m2, m3, m4, m5, m6, m7, m8, m9, m10⟩ := hI.2.2.2.2.2.1
    exact ⟨(s5 _ (by decide)).trans m1, (s5 _ (by decide)).trans m2, (s5 _ (by decide)).trans m3, by rw [s5 _ (by decide)]; exact m4, ⟨nr + 1, by omega, s2⟩, by rw [s5 _ (by decide)]; exact m6, by rw [s6 _ (by decide)]; exact m7, by rw [s5 _ (by decide)]; exact m8, ⟨qr + 1, by omega, s4⟩, by rw [s5 _ (by decide)]; exact m10⟩
  have kM3 : K_mi own P3 S3 := by
    have typ : ∀ p ∈ mis, Z.1 (own + p.2.1) ≠ 0 := fun p hp => by
      have : p.2.1 = 0 ∨ p.2.1 = 17 ∨ p.2.1 = 25 ∨ p.2.1 = 19 ∨ p.2.1 = 3 := by clear pP px; revert p; decide
      rcases this with h | h | h | h | h <;> rw [h]
      · rw [Nat.add_zero, tO]; decide
      · rw [a8]; decide
      · rw [a10]; decide
      · rw [a9]; decide
      · rw [show own + 3 = own + 1 + 2 from rfl, (E.1.shf a1).2.1]; decide
    refine kMi.cg (fun p hp => ?_) (pP _ _ (E.lt (by rw [a9]; decide)) (by decide)) (s5 _ (by decide)) (s5 _ (by decide)) (by rw [p2]) (s6 _ (by decide)) (fun y y1 y2 => ?_)
    · by_cases c2 : p.1 = 81
      · have q2 : p.2 = (17, 14) := by clear typ pP px; revert p; decide
        rw [c2, q2]; exact Or.inr (pf.trans s2.symm)
      · by_cases c3 : p.1 = 82
        · have q2 : p.2 = (17, 15) := by clear typ pP px c2; revert p; decide
          rw [c3, q2]; exact Or.inr (pe.trans s3.symm)
        · by_cases c4 : p.1 = 206
          · have q2 : p.2 = (25, 16) := by clear typ pP px c2 c3; revert p; decide
            rw [c4, q2]; exact Or.inr (pr.trans s4.symm)
          · exact Or.inl ⟨pP _ _ (E.lt (typ p hp)) (by clear typ pP px; revert p; decide), s5 _ (by clear typ pP px; revert p; decide)⟩
    · rw [s5 _ (by decide)] at y1
      rw [p2, s6 _ (by decide)]
      exact (mi_iff.mp kMi).2.2.2 y y1 y2
  have hI3 := I_row1 hI hc s1 s8 ⟨by rw [s7.1]; decide, by rw [s7.1]; decide, by rw [s7.1]; decide⟩ s6 (fun f hf hne => s5 f (by clear pP px s5 s6; revert f; decide)) hM3
  have hK3 : K_all N own n b l nl nw (nr + 1) ne ch 0 Z2 P3 U2 r2 S3 := by
    refine K_row1 hI hK E2 s8 (by rw [s7.1]; decide) s6 fZ1 fZ2 pP (fun a _ => by rw [p2]) (Nat.le_refl _) ⟨?_, ?_⟩ u18 uO u22 u1 kM3
    · obtain ⟨w1, w2, w3, w4, w5, w6, w7, w8⟩ := s7
      unfold lg_row
      rw [px _ (by decide) (by decide), px _ (by decide) (by decide), px _ (by decide) (by decide), px _ (by decide) (by decide), px _ (by decide) (by decide), px _ (by decide) (by decide), px _ (by decide) (by decide), px _ (by decide) (by decide), w1, w2, w3, w4, w5, w6, w7, w8]
      exact ⟨rfl, rfl, rfl, rfl, rfl, rfl, rfl, rfl⟩
    · rw [px _ (by decide) (by decide)]; exact Or.inl rfl
  exact q _ Z2 P3 U2 r2 S3 ⟨N, n, b, l, nl, nw, nr + 1, na, ne, ch, T + 1, hI3, hK3, hR.step ro2 (dL := 0) (by rw [s5 _ (by decide), Nat.add_zero]) (by omega) (by omega)⟩ ref
end US
