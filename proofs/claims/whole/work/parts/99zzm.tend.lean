/-! end -/
section UP
variable {g : e_G} {Ψ : e_Q} {B : Nat → Option e_Cl} {Z : k_Z} {P : k_P} {U : k_U} {r r0 : Nat × Nat} {S S' S2 : m_S} {N own n b l nl nw nr na ne j i c T m f : Nat} {ch : Nat → List Nat}
theorem cEnd_ok {cc : Nat → Nat} (hI : I_all n b l nl nw nr na ne ch 0 c T S) (h1 : 1 ≤ j) (h2 : j ≤ b) (hs : S.2 47 j = 1) (hlv : S.2 51 j = 0) (hi : (v_lv l S.2)[i]? = some j) (kp : Kp j ne n S S2) (e2 : S2 = y_keep (nI (ne + 1)) m n cc (y_en1 j ne S)) (wk : w_keep j m n cc (y_en1 j ne S)) (hr : r_settle f (Sf j ne nl i l S2) S') : r_cEnd (nI j) S (nI (ne + 1)) S' := by
  obtain ⟨hL, hD, hE, hK, hV, hM, hP, hX⟩ := hI
  have neb := en_lt hE hD.1 h1 h2 (by rw [hs]; decide)
  obtain ⟨n1, n2⟩ := nl_le hD hK hL.2.2.1.1 hP
  obtain ⟨d1, d2, d3, d4, d5, d6, d7, d8, d9, d10, d11⟩ := hD
  obtain ⟨k1, k2, k3, k4, k5, _⟩ := hK
  obtain ⟨p1, p2, p3, _⟩ := hP
  obtain ⟨f1, f2, f3, _⟩ := kp
  have hil : i < l := by have := (List.getElem?_eq_some_iff.mp hi).1; rw [v_lvl] at this; exact this
  have nd := pw_nd d8
  have lvi : S.2 46 i = nI j := by
    obtain ⟨u, e1, e2, e3⟩ := d7 i hil
    rw [v_lvg, if_pos hil, e1, i_cl (by omega)] at hi
    cases hi
    exact e1
  have s3A : ∀ f, f ∉ fp_R → f ≠ 59 → (y_en3 (y_en2 j ne S2)).2 f = S2.2 f := fun f hf hne => by
    rw [en3_A]
    unfold y_en2
    rw [yput_A hf]
    dsimp only
    rw [up_n hne]
  have s3F : ∀ f, f ∉ [14, 15, 13] → (y_en3 (y_en2 j ne S2)).1 f = S2.1 f := fun f hf => by
    rw [en3_F (fun z => hf (by clear hf; revert f; decide))]
    unfold y_en2
    rw [yput_F (nmem hf (by decide))]
  refine Or.inr ⟨j, by omega, rfl, in_tr (by rw [show (1 : Int32) = nI 1 from rfl, i_le (by omega) (by omega)]; exact h1) (by rw [d2, i_le (by omega) (by omega)]; exact h2), Or.inr ⟨ne, m, n, cc, nl, i, l, f, S2, _, hs, by rw [hlv]; decide, by omega, hE.1, wk, e2, f2, ?_, rfl, by omega, ?_, fun k hk => ?_, d6, hil, ?_, ?_, fun k hk => ?_, ?_, hr, rfl⟩⟩
  · rw [f1 _ (by decide), hL.1]; exact vp_in_nI (by omega) (by omega)
  · rw [s3F _ (by decide), f1 _ (by decide)]; exact k1
  · rw [s3A _ (by decide) (by decide), f3 _ (by decide)]
    obtain ⟨u, o, v, a1, a2, a3, a4, a5, a6, a7, a8, a9, b0, b1, b2⟩ := k5 _ (mem_vL hk)
    rcases b2 with b2 | b2
    · exact Or.inl b2
    · exact Or.inr b2.1
  · rw [yd_F (by decide), s3F _ (by decide), f1 _ (by decide)]; exact d5
  · rw [yd_A (by decide), s3A _ (by decide) (by decide), f3 _ (by decide)]; exact lvi
  · rw [yd_A (by decide), s3A _ (by decide) (by decide), f3 _ (by decide)]
    intro e
    have : (v_lv l S.2)[k]? = some j := by rw [v_lvg, if_pos (by omega), e, i_cl (by omega)]
    have := idx_inj nd this hi
    omega
  · have := sf_F (j := j) (e := ne) (nl := nl) (i := i) (l := l) (S2 := S2) (f := 60) (by decide)
    exact this.trans f2
theorem s_end30 (hg : e_GK g) (hA : e_AK g) {w1 : Option Value} (hI : I_all n b l nl nw nr na ne ch 0 c T S) (hK : K_all N own n b l nl nw nr ne ch 0 Z P U r S) (h1 : 1 ≤ j) (h2 : j ≤ b) (hs : S.2 47 j = 1) (hlv : S.2 51 j = 0)
    (q : ∀ Z' P' U' r' S' l' nl' nw' nr' na' ch' x y, I_all n b l' nl' nw' nr' na' (ne + 1) ch' 0 c (T + 1 + x) S' → K_all N own n b l' nl' nw' nr' (ne + 1) ch' 0 Z' P' U' r' S' → k_ro N (1 + x + y) (10 + 10 * x + 8 * y) Z.2.1 r Z'.2.1 r' → (S'.1 66).toNatClampNeg = (S.1 66).toNatClampNeg + y → r_cEnd (nI j) S (nI (ne + 1)) S' → Ψ (some (.int (nI (ne + 1)))) (K_H Z' P' U' (B, r'))) :
    e_Sm g 96 12 cd96 Ψ 30 [some (.ref own), w1, some (.ref (dl U own j))] [] (K_H Z P U (B, r)) := by
  obtain ⟨i, hi⟩ := List.mem_iff_getElem?.mp ((hI.2.1.2.2.2.2.2.2.2.2.1 j).mpr ⟨h1, h2, Or.inl hs⟩)
  have hI0 := hI
  have hK0 := hK
  obtain ⟨hL, hD, hEn, hLk, hV, hM, hPo, hX⟩ := hI
  obtain ⟨E, kLg, ⟨hs1, hS⟩, ⟨hs5, hS5⟩, kDe, kEn, kAs, kLk, kVe, kMi⟩ := hK
  have neb := en_lt hEn hD.1 h1 h2 (by rw [hs]; decide)
  have b400 := hD.1
  obtain ⟨n1, n2⟩ := nl_le hD hLk hL.2.2.1.1 hPo
  have n40 := hL.2.2.1.1
  have nr11 : nr ≤ 1100 := by
    obtain ⟨p1, p2, p3, _⟩ := hPo
    omega
  have tO := E.2.1
  obtain ⟨a1, a2, a3, a4, a5, a6, a7, a8, a9, a10⟩ := E.1.hse tO
  have t18 := E.1.log a8
  obtain ⟨e1, e2, e3, e4, e5, e6, e7⟩ := kDe
  have tdl := dl_t E e1 h1 h2
  have td := tdl.1
  have dlt : dl U own j < r.1 := E.lt (by rw [td]; decide)
  have l16 : (U.2.1 (own + 16)).length = ne := by rw [kEn, List.length_map, List.length_range]
  have l18 : (U.2.1 (own + 18)).length = nr := kLg.1
  obtain ⟨f0, f01, f02, f03⟩ := e5 j h1 h2
  obtain ⟨f04', f05⟩ := f03 (Or.inl (Or.inl hs))
  have f04 := f04' (Or.inl hs)
  have num : P.1 40 (dl U own j) = nI j := (e3 j h1 h2).1
  obtain ⟨ar1, ar2, ar3, ar4⟩ := act_rows hL kLg b400 h1 h2 (Or.inl (Or.inl hs)) num
  generalize hd : dl U own j = d at *
  rw [u96_30]
  simp (decide := true) (disch := first | assumption | omega) only [↓u96_0, ↓u96_12, ↓u96_27, ↓u96_30, ↓x_nil, ↓x_om, ↓x_aload_0r, ↓x_aload_0n, ↓x_aload_0q, ↓x_iload_1, ↓x_invokevirtual, mt_12_121, x_ps0, x_ps1, x_l40, x_l41, x_l42, x_l43, x_l44, ↓x_cv1, ↓x_astore_2r, ↓x_astore_2n, ↓x_astore_2q, x_cl_i, x_cl_r, x_cl_n, x_cl_q, x_cl_0, x_cl_l, ↓x_aload_2r, ↓x_aload_2n, ↓x_aload_2q, ↓x_ifnonnull_n, ↓x_ifnonnull_r, ↓x_ifnonnull_q, ↓x_iconst_m1, ↓x_ireturn, rt96, ↓x_getfield, ft_12_125, ↓x_iconst_1, ↓x_icmp_ne, ft_12_130, ↓x_if_le, ↓x_bipush_m2, ft_12_38, mt_12_161, ↓x_pop_i, ↓x_pop_r, ↓x_pop_n, ↓x_pop_q, mt_12_165, ↓x_cv0, ↓x_putfield, ft_12_167, x_fit0, x_fit1, x_fit2r, x_fit2n, x_fit2q, ft_12_44, ↓x_new, ct_12_101, ↓x_dup_i, ↓x_dup_r, ↓x_dup_n, ↓x_iconst_4, ft_12_170, ↓x_iconst_0, ↓x_invokespecial, mt_12_103, ↓x_ci7_2, mt_12_106, mt_12_173, mt_12_176, ft_12_16, mt_12_177, ↓x_cv3, mt_12_181, ↓x_cv2, mt_12_185, ↓x_iconst_3, ↓x_null, mt_12_155, Int.reduceAdd, Nat.reduceAdd, true_and, and_true, true_or, or_true, false_or, or_false, reduceCtorEq, false_and, and_false, and_self, or_self, false_implies, true_implies, not_true_eq_false, not_false_eq_true, implies_true, Option.some.injEq, ki12, kg2, kv2_3, kv2_5, kg12, kv12_6, kiL30, kiL31, kiL32, kv2_10, kw2_10, k_rs, k_rn, k_r2, k_c2, kv12_7, kv2_0, ki7, ki4, kv12_1, kw2_3, up_s, up_n]
  refine l_add hA (N := N) (c := 2) (k_tL30 a7) (E.1.el30 a7) (E.1.lN (k_tL30 a7)) (by omega) (E.1.cap _).1 (E.1.cap _).2 td (by decide) (by decide) (fun C1 r1 hr1 => ?_)
  have E1 : k_E N own (k_zc Z C1) (k_wl U (own + 16) (U.2.1 (own + 16) ++ [d])) r1 := E.zc hr1 (E.1.wl (fun _ y hy => by
    rcases List.mem_append.mp hy with h | h
    · exact E.1.lde a7 h
    · rw [List.mem_singleton] at h; rw [h]; exact td) (fun h => by rw [a7] at h; exact absurd h (by decide)) (fun h => by rw [a7] at h; exact absurd h (by decide))) rfl
  have c0 : (k_zc Z C1).1 own = 13 := tO
  have c16 : (k_zc Z C1).1 (own + 16) = 30 := a7
  have cd : (k_zc Z C1).1 d = 3 := td
  simp (decide := true) (disch := first | assumption | omega) only [↓u96_0, ↓u96_12, ↓u96_27, ↓u96_30, ↓x_nil, ↓x_om, ↓x_aload_0r, ↓x_aload_0n, ↓x_aload_0q, ↓x_iload_1, ↓x_invokevirtual, mt_12_121, x_ps0, x_ps1, x_l40, x_l41, x_l42, x_l43, x_l44, ↓x_cv1, ↓x_astore_2r, ↓x_astore_2n, ↓x_astore_2q, x_cl_i, x_cl_r, x_cl_n, x_cl_q, x_cl_0, x_cl_l, ↓x_aload_2r, ↓x_aload_2n, ↓x_aload_2q, ↓x_ifnonnull_n, ↓x_ifnonnull_r, ↓x_ifnonnull_q, ↓x_iconst_m1, ↓x_ireturn, rt96, ↓x_getfield, ft_12_125, ↓x_iconst_1, ↓x_icmp_ne, ft_12_130, ↓x_if_le, ↓x_bipush_m2, ft_12_38, mt_12_161, ↓x_pop_i, ↓x_pop_r, ↓x_pop_n, ↓x_pop_q, mt_12_165, ↓x_cv0, ↓x_putfield, ft_12_167, x_fit0, x_fit1, x_fit2r, x_fit2n, x_fit2q, ft_12_44, ↓x_new, ct_12_101, ↓x_dup_i, ↓x_dup_r, ↓x_dup_n, ↓x_iconst_4, ft_12_170, ↓x_iconst_0, ↓x_invokespecial, mt_12_103, ↓x_ci7_2, mt_12_106, mt_12_173, mt_12_176, ft_12_16, mt_12_177, ↓x_cv3, mt_12_181, ↓x_cv2, mt_12_185, ↓x_iconst_3, ↓x_null, mt_12_155, Int.reduceAdd, Nat.reduceAdd, true_and, and_true, true_or, or_true, false_or, or_false, reduceCtorEq, false_and, and_false, and_self, or_self, false_implies, true_implies, not_true_eq_false, not_false_eq_true, implies_true, Option.some.injEq, ki12, kg2, kv2_3, kv2_5, kg12, kv12_6, kiL30, kiL31, kiL32, kv2_10, kw2_10, k_rs, k_rn, k_r2, k_c2, kv12_7, kv2_0, ki7, ki4, kv12_1, kw2_3, up_s, up_n]
  refine l_size hA (k_tL30 c16) ?_
  rw [k_ls, List.length_append, l16, List.length_singleton]
  have pn : (k_wr P 50 d (nI (ne + 1))).1 40 d = nI j := by rw [k_rn (by decide)]; exact num
  have pe : (k_wr P 50 d (nI (ne + 1))).1 50 d = nI (ne + 1) := k_rs
  have tn := (E1.2.2.1 r1.1 (Nat.le_refl _)).1
  simp (decide := true) (disch := first | assumption | omega) only [↓u96_0, ↓u96_12, ↓u96_27, ↓u96_30, ↓x_nil, ↓x_om, ↓x_aload_0r, ↓x_aload_0n, ↓x_aload_0q, ↓x_iload_1, ↓x_invokevirtual, mt_12_121, x_ps0, x_ps1, x_l40, x_l41, x_l42, x_l43, x_l44, ↓x_cv1, ↓x_astore_2r, ↓x_astore_2n, ↓x_astore_2q, x_cl_i, x_cl_r, x_cl_n, x_cl_q, x_cl_0, x_cl_l, ↓x_aload_2r, ↓x_aload_2n, ↓x_aload_2q, ↓x_ifnonnull_n, ↓x_ifnonnull_r, ↓x_ifnonnull_q, ↓x_iconst_m1, ↓x_ireturn, rt96, ↓x_getfield, ft_12_125, ↓x_iconst_1, ↓x_icmp_ne, ft_12_130, ↓x_if_le, ↓x_bipush_m2, ft_12_38, mt_12_161, ↓x_pop_i, ↓x_pop_r, ↓x_pop_n, ↓x_pop_q, mt_12_165, ↓x_cv0, ↓x_putfield, ft_12_167, x_fit0, x_fit1, x_fit2r, x_fit2n, x_fit2q, ft_12_44, ↓x_new, ct_12_101, ↓x_dup_i, ↓x_dup_r, ↓x_dup_n, ↓x_iconst_4, ft_12_170, ↓x_iconst_0, ↓x_invokespecial, mt_12_103, ↓x_ci7_2, mt_12_106, mt_12_173, mt_12_176, ft_12_16, mt_12_177, ↓x_cv3, mt_12_181, ↓x_cv2, mt_12_185, ↓x_iconst_3, ↓x_null, mt_12_155, Int.reduceAdd, Nat.reduceAdd, true_and, and_true, true_or, or_true, false_or, or_false, reduceCtorEq, false_and, and_false, and_self, or_self, false_implies, true_implies, not_true_eq_false, not_false_eq_true, implies_true, Option.some.injEq, pn, pe, k_alO, nf7, k_c2, ki12, kg2, kv2_3, kv2_5, kg12, kv12_6, kiL30, kiL31, kiL32, kv2_10, kw2_10, k_rs, k_rn, k_r2, k_c2, kv12_7, kv2_0, ki7, ki4, kv12_1, kw2_3, up_s, up_n]
  refine h_newRow hg tn ?_
  have w2 := E1.1.leaf (tg := 8) tn (by omega)
  have z1 : ∀ a, Z.1 a ≠ 0 → (k_zt (k_zc Z C1) r1.1 8).1 a = Z.1 a := fun a h => k_ztn (by have := E1.lt (a := a) h; omega)
  have c0 : (k_zt (k_zc Z C1) r1.1 8).1 own = 13 := by rw [z1 own (by rw [tO]; decide)]; exact tO
  have c8 : (k_zt (k_zc Z C1) r1.1 8).1 (own + 17) = 5 := by rw [z1 _ (by rw [a8]; decide)]; exact a8
  have cm : (k_zt (k_zc Z C1) r1.1 8).1 r1.1 = 8 := k_zts
  have cd : (k_zt (k_zc Z C1) r1.1 8).1 d = 3 := by rw [z1 _ (by rw [td]; decide)]; exact td
  have e18 : (k_wl U (own + 16) (U.2.1 (own + 16) ++ [d])).2.1 (own + 17 + 1) = U.2.1 (own + 18) := k_ln (by omega)
  simp (decide := true) (disch := first | assumption | omega) only [↓u96_0, ↓u96_12, ↓u96_27, ↓u96_30, ↓x_nil, ↓x_om, ↓x_aload_0r, ↓x_aload_0n, ↓x_aload_0q, ↓x_iload_1, ↓x_invokevirtual, mt_12_121, x_ps0, x_ps1, x_l40, x_l41, x_l42, x_l43, x_l44, ↓x_cv1, ↓x_astore_2r, ↓x_astore_2n, ↓x_astore_2q, x_cl_i, x_cl_r, x_cl_n, x_cl_q, x_cl_0, x_cl_l, ↓x_aload_2r, ↓x_aload_2n, ↓x_aload_2q, ↓x_ifnonnull_n, ↓x_ifnonnull_r, ↓x_ifnonnull_q, ↓x_iconst_m1, ↓x_ireturn, rt96, ↓x_getfield, ft_12_125, ↓x_iconst_1, ↓x_icmp_ne, ft_12_130, ↓x_if_le, ↓x_bipush_m2, ft_12_38, mt_12_161, ↓x_pop_i, ↓x_pop_r, ↓x_pop_n, ↓x_pop_q, mt_12_165, ↓x_cv0, ↓x_putfield, ft_12_167, x_fit0, x_fit1, x_fit2r, x_fit2n, x_fit2q, ft_12_44, ↓x_new, ct_12_101, ↓x_dup_i, ↓x_dup_r, ↓x_dup_n, ↓x_iconst_4, ft_12_170, ↓x_iconst_0, ↓x_invokespecial, mt_12_103, ↓x_ci7_2, mt_12_106, mt_12_173, mt_12_176, ft_12_16, mt_12_177, ↓x_cv3, mt_12_181, ↓x_cv2, mt_12_185, ↓x_iconst_3, ↓x_null, mt_12_155, Int.reduceAdd, Nat.reduceAdd, true_and, and_true, true_or, or_true, false_or, or_false, reduceCtorEq, false_and, and_false, and_self, or_self, false_implies, true_implies, not_true_eq_false, not_false_eq_true, implies_true, Option.some.injEq, k_alO, nf7, k_c2, ki12, kg2, kv2_3, kv2_5, kg12, kv12_6, kiL30, kiL31, kiL32, kv2_10, kw2_10, k_rs, k_rn, k_r2, k_c2, kv12_7, kv2_0, ki7, ki4, kv12_1, kw2_3, up_s, up_n]
  refine h_append hg hA w2 c8 cm (by rw [e18]; omega) (fun C2 r2 hr2 => ?_)
  have E2 := E1.row (s' := r1.2 + 10) (fun y hy => hy) hr2
  rw [show own + 17 + 1 = own + 18 from rfl]
  have fZ1 : ∀ a, Z.1 a ≠ 0 → (k_zc (k_zt (k_zc Z C1) r1.1 8) C2).1 a = Z.1 a := fun a h => z1 a h
  have fZ2 : ∀ a, (k_zc (k_zt (k_zc Z C1) r1.1 8) C2).2.2 a = Z.2.2 a := fun a => rfl
  have rr : r.1 ≤ r1.1 := hr1.1
  have px : ∀ f, (k_set1 (k_wr P 50 d (nI (ne + 1))) r1.1 (k_rwF 4 (nI j) (-1) (-1) 0 0 (nI (ne + 1)) (-1))).1 f r1.1 = k_rwF 4 (nI j) (-1) (-1) 0 0 (nI (ne + 1)) (-1) f := fun f => k_s1s
  have pP : ∀ f a, a < r.1 → f ≠ 50 ∨ a ≠ d → (k_set1 (k_wr P 50 d (nI (ne + 1))) r1.1 (k_rwF 4 (nI j) (-1) (-1) 0 0 (nI (ne + 1)) (-1))).1 f a = P.1 f a := fun f a ha h => by
    rw [k_s1n (by omega)]
    by_cases c1 : f = 50
    · subst c1; exact k_ra (h.resolve_left (fun z => z rfl))
    · exact k_rn c1
  have pe2 : (k_set1 (k_wr P 50 d (nI (ne + 1))) r1.1 (k_rwF 4 (nI j) (-1) (-1) 0 0 (nI (ne + 1)) (-1))).1 50 d = nI (ne + 1) := by rw [k_s1n (by omega)]; exact k_rs
  have pP2 : (k_set1 (k_wr P 50 d (nI (ne + 1))) r1.1 (k_rwF 4 (nI j) (-1) (-1) 0 0 (nI (ne + 1)) (-1))).2 = P.2 := rfl
  have u18 : (k_wl (k_wl U (own + 16) (U.2.1 (own + 16) ++ [d])) (own + 18) ((k_wl U (own + 16) (U.2.1 (own + 16) ++ [d])).2.1 (own + 18) ++ [r1.1])).2.1 (own + 18) = U.2.1 (own + 18) ++ [r1.1] := by rw [k_ls, k_ln (by omega)]
  have u16 : (k_wl (k_wl U (own + 16) (U.2.1 (own + 16) ++ [d])) (own + 18) ((k_wl U (own + 16) (U.2.1 (own + 16) ++ [d])).2.1 (own + 18) ++ [r1.1])).2.1 (own + 16) = U.2.1 (own + 16) ++ [d] := by rw [k_ln (by omega), k_ls]
  have uO : ∀ a, a ≠ own + 16 → a ≠ own + 18 → (k_wl (k_wl U (own + 16) (U.2.1 (own + 16) ++ [d])) (own + 18) ((k_wl U (own + 16) (U.2.1 (own + 16) ++ [d])).2.1 (own + 18) ++ [r1.1])).2.1 a = U.2.1 a := fun a h1 h2 => by rw [k_ln h2, k_ln h1]
  have u22 : (k_wl (k_wl U (own + 16) (U.2.1 (own + 16) ++ [d])) (own + 18) ((k_wl U (own + 16) (U.2.1 (own + 16) ++ [d])).2.1 (own + 18) ++ [r1.1])).2.2 = U.2.2 := rfl
  have u1 : (k_wl (k_wl U (own + 16) (U.2.1 (own + 16) ++ [d])) (own + 18) ((k_wl U (own + 16) (U.2.1 (own + 16) ++ [d])).2.1 (own + 18) ++ [r1.1])).1 = U.1 := rfl
  have ro2 : k_ro N 1 10 Z.2.1 r (k_zc (k_zt (k_zc Z C1) r1.1 8) C2).2.1 r2 := (hr1.tr ((k_ro.new 1 10).tr hr2)).le (by omega) (by omega)
  generalize hx : r1.1 = x at *
  generalize k_zc (k_zt (k_zc Z C1) x 8) C2 = Z2 at *
  generalize k_set1 (k_wr P 50 d (nI (ne + 1))) x (k_rwF 4 (nI j) (-1) (-1) 0 0 (nI (ne + 1)) (-1)) = P2 at *
  generalize k_wl (k_wl U (own + 16) (U.2.1 (own + 16) ++ [d])) (own + 18) ((k_wl U (own + 16) (U.2.1 (own + 16) ++ [d])).2.1 (own + 18) ++ [x]) = U2 at *
  clear hr1 hr2 E1 w2 z1 c0 c8 cm cd e18 pn pe tn c16
  have tO2 : Z2.1 own = 13 := E2.2.1
  have td2 : Z2.1 d = 3 := by rw [fZ1 _ (by rw [td]; decide)]; exact td
  obtain ⟨b1, b2, b3, b4, b5, b6, b7, b8, b9, b10⟩ := E2.1.hse tO2
  have len2 : (U2.2.1 (own + 18)).length = nr + 1 := by rw [u18, List.length_append, l18, List.length_singleton]
  simp (decide := true) (disch := first | assumption | omega) only [↓u96_0, ↓u96_12, ↓u96_27, ↓u96_30, ↓x_nil, ↓x_om, ↓x_aload_0r, ↓x_aload_0n, ↓x_aload_0q, ↓x_iload_1, ↓x_invokevirtual, mt_12_121, x_ps0, x_ps1, x_l40, x_l41, x_l42, x_l43, x_l44, ↓x_cv1, ↓x_astore_2r, ↓x_astore_2n, ↓x_astore_2q, x_cl_i, x_cl_r, x_cl_n, x_cl_q, x_cl_0, x_cl_l, ↓x_aload_2r, ↓x_aload_2n, ↓x_aload_2q, ↓x_ifnonnull_n, ↓x_ifnonnull_r, ↓x_ifnonnull_q, ↓x_iconst_m1, ↓x_ireturn, rt96, ↓x_getfield, ft_12_125, ↓x_iconst_1, ↓x_icmp_ne, ft_12_130, ↓x_if_le, ↓x_bipush_m2, ft_12_38, mt_12_161, ↓x_pop_i, ↓x_pop_r, ↓x_pop_n, ↓x_pop_q, mt_12_165, ↓x_cv0, ↓x_putfield, ft_12_167, x_fit0, x_fit1, x_fit2r, x_fit2n, x_fit2q, ft_12_44, ↓x_new, ct_12_101, ↓x_dup_i, ↓x_dup_r, ↓x_dup_n, ↓x_iconst_4, ft_12_170, ↓x_iconst_0, ↓x_invokespecial, mt_12_103, ↓x_ci7_2, mt_12_106, mt_12_173, mt_12_176, ft_12_16, mt_12_177, ↓x_cv3, mt_12_181, ↓x_cv2, mt_12_185, ↓x_iconst_3, ↓x_null, mt_12_155, Int.reduceAdd, Nat.reduceAdd, true_and, and_true, true_or, or_true, false_or, or_false, reduceCtorEq, false_and, and_false, and_self, or_self, false_implies, true_implies, not_true_eq_false, not_false_eq_true, implies_true, Option.some.injEq, ki12, kg2, kv2_3, kv2_5, kg12, kv12_6, kiL30, kiL31, kiL32, kv2_10, kw2_10, k_rs, k_rn, k_r2, k_c2, kv12_7, kv2_0, ki7, ki4, kv12_1, kw2_3, up_s, up_n]
  refine h_forceByGroup hg hA (n := nr + 1) E2.1 b8 len2 ?_
  have m1 : P2.1 83 (own + 17) = S.1 2 := by rw [pP _ _ (E.lt (by rw [a8]; decide)) (Or.inl (by decide))]; exact kMi.2.2.1
  have m2 : P2.1 82 (own + 17) = S.1 15 := by rw [pP _ _ (E.lt (by rw [a8]; decide)) (Or.inl (by decide))]; exact kMi.2.2.2.2.1
  have m3 : P2.1 81 (own + 17) = S.1 14 := by rw [pP _ _ (E.lt (by rw [a8]; decide)) (Or.inl (by decide))]; exact kMi.2.2.2.1
  have p3F : ∀ f a, f ≠ 81 → f ≠ 82 → (k_fGrp P2 (own + 17) (nr + 1)).1 f a = P2.1 f a := fun f a h1 h2 => by
    unfold k_fGrp k_fAll
    split
    · rw [k_rn h2, k_rn h1, k_rn h2]
    · rw [k_rn h2]
  have p32 : (k_fGrp P2 (own + 17) (nr + 1)).2 = P2.2 := by
    unfold k_fGrp k_fAll
    split <;> rfl
  have plog : (S.1 15 + 1 < S.1 2 ∧ (k_fGrp P2 (own + 17) (nr + 1)).1 81 (own + 17) = S.1 14 ∧ (k_fGrp P2 (own + 17) (nr + 1)).1 82 (own + 17) = S.1 15 + 1) ∨ (¬ S.1 15 + 1 < S.1 2 ∧ (k_fGrp P2 (own + 17) (nr + 1)).1 81 (own + 17) = nI (nr + 1) ∧ (k_fGrp P2 (own + 17) (nr + 1)).1 82 (own + 17) = 0) := by
    unfold k_fGrp k_fAll
    rw [m1, m2]
    by_cases cg : S.1 2 ≤ S.1 15 + 1
    · rw [if_pos cg]
      refine Or.inr ⟨Int32.not_lt.mpr cg, ?_, k_rs⟩
      rw [k_rn (by decide), k_rs]
    · rw [if_neg cg]
      refine Or.inl ⟨Int32.not_le.mp cg, ?_, k_rs⟩
      rw [k_rn (by decide)]; exact m3
  generalize k_fGrp P2 (own + 17) (nr + 1) = P3 at *
  -- what stands now
  have p3P : ∀ f a, a < r.1 → f ≠ 81 → f ≠ 82 → f ≠ 50 ∨ a ≠ d → P3.1 f a = P.1 f a := fun f a ha h1 h2 h3 => (p3F f a h1 h2).trans (pP f a ha h3)
  have p32' : P3.2 = P.2 := p32.trans pP2
  have px3 : ∀ f, f ≠ 81 → f ≠ 82 → P3.1 f x = k_rwF 4 (nI j) (-1) (-1) 0 0 (nI (ne + 1)) (-1) f := fun f h1 h2 => (p3F f x h1 h2).trans (px f)
  have pe3 : P3.1 50 d = nI (ne + 1) := (p3F _ _ (by decide) (by decide)).trans pe2
  have num3 : P3.1 40 d = nI j := (p3P _ _ dlt (by decide) (by decide) (Or.inl (by decide))).trans num
  have thU : ∀ s o, k_th U2 s o = k_th U s o := fun s o => by unfold k_th; rw [u22]
  have spU : ∀ o, k_sp U2 own o = k_sp U own o := fun o => by unfold k_sp; rw [u22]
  have hs13 : k_Sh Z2 P3 U2 (own + 1) n := by
    refine ⟨b1, ?_, hs1.2.2.1, fun o ho => ?_⟩
    · rw [p3P _ _ (E.lt (by rw [a1]; decide)) (by decide) (by decide) (Or.inl (by decide))]; exact hs1.2.1
    · rw [thU, u22]; exact hs1.2.2.2 o ho
  have hs53 : k_Sh Z2 P3 U2 (own + 5) n := by
    refine ⟨b2, ?_, hs5.2.2.1, fun o ho => ?_⟩
    · rw [p3P _ _ (E.lt (by rw [a2]; decide)) (by decide) (by decide) (Or.inl (by decide))]; exact hs5.2.1
    · rw [thU, u22]; exact hs5.2.2.2 o ho
  let cc : Nat → Nat := fun q => (ch j).getD q 0
  have hrev : revr cc (ch j).length = (ch j).reverse := revr_rev (ch j)
  have hch := hL.2.2.2.2.2.2.1 j h1 h2 (Or.inl (Or.inl hs))
  have hS53 : R_sh P3 U2 (own + 5) n (Sw j ne (ch j).length n cc S).2 40 := by
    refine R_sh.cgU (U := U) ?_ (fun o _ => thU _ _)
    refine hS5.keep (fun f hf o ho => ?_) (fun o ho => by rw [p32']) (sw_A (by decide)) (sw_A (by decide)) (sw_A (by decide)) (fun o _ => ⟨by rw [sw_A (by decide)], by rw [sw_A (by decide)], by rw [sw_A (by decide)]⟩) (fun q _ _ => by rw [sw_A (by decide)])
    have tt := (k_th_t E.1 hs5 ho).1
    exact p3P f _ (E.lt (by rw [tt]; decide)) (by omega) (by omega) (Or.inl (by omega))
  have rowT : ∀ y ∈ U.2.1 (own + 18), Z.1 y = 8 := fun y hy => E.1.lro t18 hy
  have logO : ∀ ρ y, ρ < nr → (U2.2.1 (own + 18))[ρ]? = some y → (U.2.1 (own + 18))[ρ]? = some y := fun ρ y h h' => by
    rw [u18, List.getElem?_append_left (by omega)] at h'
    exact h'
  have logN : ∀ ρ y, ¬ ρ < nr → ρ < nr + 1 → (U2.2.1 (own + 18))[ρ]? = some y → y = x := fun ρ y h1 h2 h' => by
    rw [u18, List.getElem?_append_right (by omega), l18, show ρ - nr = 0 by omega] at h'
    simpa using h'.symm
  have act3 : ∀ ρ y, ρ < nr + 1 → (U2.2.1 (own + 18))[ρ]? = some y → (k_actO P3 y d = true ↔ ∃ q ∈ (ch j).reverse, ar S.2 q = ρ) := fun ρ y hρ hy => by
    by_cases cρ : ρ < nr
    · have hy' := logO ρ y cρ hy
      have ty := rowT y (List.mem_of_getElem? hy')
      have yl : y < r.1 := E.lt (by rw [ty]; decide)
      have ek : k_actO P3 y d = k_actO P y d := by
        unfold k_actO
        rw [p3P _ y yl (by decide) (by decide) (Or.inl (by decide)), p3P _ y yl (by decide) (by decide) (Or.inl (by decide)), p3P _ y yl (by decide) (by decide) (Or.inl (by decide)), num3, num]
      rw [ek]
      exact ar3 ρ y hy'
    · have ey := logN ρ y cρ hρ hy
      subst ey
      constructor
      · intro z
        unfold k_actO at z
        rw [px3 _ (by decide) (by decide)] at z
        rw [Bool.and_eq_true, Bool.and_eq_true, beq_iff_eq] at z
        exact absurd (show (4 : Int32) = 2 from z.1.1) (by decide)
      · rintro ⟨q, q1, q2⟩
        have := ar2 q q1
        omega
  have row3 : ∀ q ∈ (ch j).reverse, aok n S.2 q ∧ ∀ y, (U2.2.1 (own + 18))[ar S.2 q]? = some y → P3.1 142 y = S.2 35 q ∧ P3.1 143 y = S.2 36 q ∧ P3.1 144 y = S.2 37 q ∧ P3.1 145 y = S.2 38 q ∧ P3.1 146 y = S.2 39 q := fun q hq => by
    obtain ⟨z1, z2⟩ := ar4 q hq
    refine ⟨z1, fun y hy => ?_⟩
    have hy' := logO _ y (ar2 q hq) hy
    have ty := rowT y (List.mem_of_getElem? hy')
    have yl : y < r.1 := E.lt (by rw [ty]; decide)
    rw [p3P _ y yl (by decide) (by decide) (Or.inl (by decide)), p3P _ y yl (by decide) (by decide) (Or.inl (by decide)), p3P _ y yl (by decide) (by decide) (Or.inl (by decide)), p3P _ y yl (by decide) (by decide) (Or.inl (by decide)), p3P _ y yl (by decide) (by decide) (Or.inl (by decide))]
    exact z2 y hy'
  have f03' : P3.1 51 d = nI f0 := (p3P _ _ dlt (by decide) (by decide) (Or.inl (by decide))).trans f02
  have hL3 : ∀ q ∈ (ch j).reverse, f0 ≤ ar S.2 q ∧ ar S.2 q < nr + 1 := fun q hq => ⟨f05 q (List.mem_reverse.mp hq), by have := ar2 q hq; omega⟩
  have htr : 0 ≤ (Sw j ne (ch j).length n cc S).1 30 := by
    obtain ⟨tq, tq1, tq2⟩ := hM.2.2.2.1
    rw [sw_F (by decide), tq2]
    exact nI_pos' (by omega)
  simp (decide := true) (disch := first | assumption | omega) only [↓u96_0, ↓u96_12, ↓u96_27, ↓u96_30, ↓x_nil, ↓x_om, ↓x_aload_0r, ↓x_aload_0n, ↓x_aload_0q, ↓x_iload_1, ↓x_invokevirtual, mt_12_121, x_ps0, x_ps1, x_l40, x_l41, x_l42, x_l43, x_l44, ↓x_cv1, ↓x_astore_2r, ↓x_astore_2n, ↓x_astore_2q, x_cl_i, x_cl_r, x_cl_n, x_cl_q, x_cl_0, x_cl_l, ↓x_aload_2r, ↓x_aload_2n, ↓x_aload_2q, ↓x_ifnonnull_n, ↓x_ifnonnull_r, ↓x_ifnonnull_q, ↓x_iconst_m1, ↓x_ireturn, rt96, ↓x_getfield, ft_12_125, ↓x_iconst_1, ↓x_icmp_ne, ft_12_130, ↓x_if_le, ↓x_bipush_m2, ft_12_38, mt_12_161, ↓x_pop_i, ↓x_pop_r, ↓x_pop_n, ↓x_pop_q, mt_12_165, ↓x_cv0, ↓x_putfield, ft_12_167, x_fit0, x_fit1, x_fit2r, x_fit2n, x_fit2q, ft_12_44, ↓x_new, ct_12_101, ↓x_dup_i, ↓x_dup_r, ↓x_dup_n, ↓x_iconst_4, ft_12_170, ↓x_iconst_0, ↓x_invokespecial, mt_12_103, ↓x_ci7_2, mt_12_106, mt_12_173, mt_12_176, ft_12_16, mt_12_177, ↓x_cv3, mt_12_181, ↓x_cv2, mt_12_185, ↓x_iconst_3, ↓x_null, mt_12_155, Int.reduceAdd, Nat.reduceAdd, true_and, and_true, true_or, or_true, false_or, or_false, reduceCtorEq, false_and, and_false, and_self, or_self, false_implies, true_implies, not_true_eq_false, not_false_eq_true, implies_true, Option.some.injEq, ki12, kg2, kv2_3, kv2_5, kg12, kv12_6, kiL30, kiL31, kiL32, kv2_10, kw2_10, k_rs, k_rn, k_r2, k_c2, kv12_7, kv2_0, ki7, ki4, kv12_1, kw2_3, up_s, up_n]
  refine h_logSize hg hA E2.1 b8 ?_
  rw [show own + 17 + 1 = own + 18 from rfl, len2]
  simp (decide := true) (disch := first | assumption | omega) only [↓u96_0, ↓u96_12, ↓u96_27, ↓u96_30, ↓x_nil, ↓x_om, ↓x_aload_0r, ↓x_aload_0n, ↓x_aload_0q, ↓x_iload_1, ↓x_invokevirtual, mt_12_121, x_ps0, x_ps1, x_l40, x_l41, x_l42, x_l43, x_l44, ↓x_cv1, ↓x_astore_2r, ↓x_astore_2n, ↓x_astore_2q, x_cl_i, x_cl_r, x_cl_n, x_cl_q, x_cl_0, x_cl_l, ↓x_aload_2r, ↓x_aload_2n, ↓x_aload_2q, ↓x_ifnonnull_n, ↓x_ifnonnull_r, ↓x_ifnonnull_q, ↓x_iconst_m1, ↓x_ireturn, rt96, ↓x_getfield, ft_12_125, ↓x_iconst_1, ↓x_icmp_ne, ft_12_130, ↓x_if_le, ↓x_bipush_m2, ft_12_38, mt_12_161, ↓x_pop_i, ↓x_pop_r, ↓x_pop_n, ↓x_pop_q, mt_12_165, ↓x_cv0, ↓x_putfield, ft_12_167, x_fit0, x_fit1, x_fit2r, x_fit2n, x_fit2q, ft_12_44, ↓x_new, ct_12_101, ↓x_dup_i, ↓x_dup_r, ↓x_dup_n, ↓x_iconst_4, ft_12_170, ↓x_iconst_0, ↓x_invokespecial, mt_12_103, ↓x_ci7_2, mt_12_106, mt_12_173, mt_12_176, ft_12_16, mt_12_177, ↓x_cv3, mt_12_181, ↓x_cv2, mt_12_185, ↓x_iconst_3, ↓x_null, mt_12_155, Int.reduceAdd, Nat.reduceAdd, true_and, and_true, true_or, or_true, false_or, or_false, reduceCtorEq, false_and, and_false, and_self, or_self, false_implies, true_implies, not_true_eq_false, not_false_eq_true, implies_true, Option.some.injEq, ki12, kg2, kv2_3, kv2_5, kg12, kv12_6, kiL30, kiL31, kiL32, kv2_10, kw2_10, k_rs, k_rn, k_r2, k_c2, kv12_7, kv2_0, ki7, ki4, kv12_1, kw2_3, up_s, up_n]
  refine s_redo (S := Sw j ne (ch j).length n cc S) (A0 := S.2) (x0 := 40) (st := y_ka1) (L := (ch j).reverse) (f0 := f0) hg hA E2.1 tO2 td2 (E2.ap hs53) hL.2.2.1 (Or.inr (Or.inl rfl)) (by omega) (by omega) ka_ok f03' (by omega) ar1 hL3 (fun ρ y _ h2 h3 => act3 ρ y h2 h3) row3 hs53 hS53 (fun f hf => sw_A (by clear px px3 p3P p3F pP; revert f; decide)) ((sw_F (by decide)).trans hM.2.2.1) ((sw_F (by decide)).trans hM.2.1) htr (fun y hy => by rw [sw_A (by decide)]; exact hL.2.2.2.2.2.2.2.2.2 y hy) (fun hal P4 hs54 hS54 hf4 hel hsz => ?_)
  rw [← hrev] at hal hS54 hel hsz
  rw [Rd_ka] at hS54 hel hsz
  obtain ⟨kp, kw⟩ := kp_ok (j := j) (c := cc) (m := (ch j).length) hV (by omega) hM.2.2.1 hM.2.2.2.2.2.2.1 n40 hal hel hsz (fun q hq => by
    have qm : cc q ∈ (ch j).reverse := by
      rw [← hrev]; exact revr_mem.mpr ⟨q, hq, rfl⟩
    obtain ⟨o, k, z1, z2, z3, z4, z5, z6⟩ := (ar4 _ qm).1
    by_cases ck : k = 18 ∨ k = 19
    · obtain ⟨p, p1, p2⟩ := z6 ck
      exact ⟨o, p, by omega, z3, fun _ => ⟨p1, p2⟩⟩
    · refine ⟨o, 0, by omega, z3, fun z => absurd ?_ ck⟩
      rw [z4, show (18 : Int32) = nI 18 from rfl, show (19 : Int32) = nI 19 from rfl, i_eq (by omega) (by omega), i_eq (by omega) (by omega)] at z
      exact z)
  rw [hrev] at kw
  have frR := (Rd_fr ka_ok (revr cc (ch j).length) true (Sw j ne (ch j).length n cc S)).2
  rw [Rd_ka] at frR
  have wka : w_kaL cc (ch j).length (Sw j ne (ch j).length n cc S) := w_ka _ _ (fun q hq => by
    have qm : cc q ∈ ch j := by
      have : cc q ∈ (ch j).reverse := by rw [← hrev]; exact revr_mem.mpr ⟨q, hq, rfl⟩
      exact List.mem_reverse.mp this
    have := (hch.2.2.2.1 _ qm).1
    have := hL.2.2.2.2.1
    omega) hal
  have wk : w_keep j (ch j).length n cc (y_en1 j ne S) := by
    have eA : ∀ f, f ≠ 61 → f ≠ 58 → (y_en1 j ne S).2 f = S.2 f := fun f z1 z2 => by unfold y_en1; dsimp only; rw [up_n z2, up_n z1]
    have eF : ∀ f, f ≠ 60 → (y_en1 j ne S).1 f = S.1 f := fun f z1 => by unfold y_en1; dsimp only; rw [up_n z1]
    refine ⟨by omega, by have := hch.2.1; omega, n40, by rw [eA _ (by decide) (by decide)]; exact hch.1, by rw [eF _ (by decide)]; exact hM.1, ?_, by rw [eA _ (by decide) (by decide)]; exact hM.2.2.2.2.2.2.1, fun y hy => by rw [eA _ (by decide) (by decide)]; exact hL.2.2.2.2.2.2.2.2.2 y hy, wka, fun o ho => ?_⟩
    · have := chn_cn hch hL.2.2.2.2.1
      unfold w_cn at this ⊢
      rw [eA _ (by decide) (by decide), eA _ (by decide) (by decide)]
      exact this
    · obtain ⟨v, v1, v2, v3, _⟩ := hV o ho
      exact ⟨v, by omega, by rw [eA _ (by decide) (by decide)]; exact v1⟩
  have spt : ∀ o, o < n → Z.1 (k_sp U own o) = 10 := fun o ho => k_sp_t E.1 tO kLk.1 ho
  have p4F : ∀ f a, f ∉ fp_pf → P4.1 f a = P3.1 f a := fun f a hf => frS_f hf4 hf
  have t8n : ∀ o, o < n → k_sp U own o + 3 ≠ own + 8 ∧ k_sp U own o + 4 ≠ own + 8 := fun o ho => ⟨fun z => by
    have := spt o ho
    rw [show k_sp U own o = own + 5 by omega, a2] at this
    exact absurd this (by decide), fun z => by
    have := spt o ho
    rw [show k_sp U own o = own + 4 by omega, show own + 4 = own + 1 + 3 from rfl, (E.1.shf a1).2.2] at this
    exact absurd this (by decide)⟩
  have th5 : ∀ a, Z.1 a ≠ 108 → ∀ o, o < n → a ≠ k_th U2 (own + 5) o + 1 := fun a h o ho z => h (by rw [z, thU]; exact (k_th_t E.1 hs5 ho).2)
  have hVe4 : K_ve own n P4 U2 (y_kaL cc (ch j).length (Sw j ne (ch j).length n cc S)) := by
    refine kVe.cg spU (fun o ho => ?_) (fun f hf => ?_)
    · obtain ⟨s1, s2, s3, s4⟩ := E.1.spt (spt o ho)
      refine ⟨?_, ?_, ?_⟩
      · rw [p4F _ _ (by decide), p3P _ _ (E.lt (by rw [spt o ho]; decide)) (by decide) (by decide) (Or.inl (by decide))]
      · rw [hf4.2 _ (t8n o ho).1 (th5 _ (by rw [s3]; decide)), p32']
      · rw [hf4.2 _ (t8n o ho).2 (th5 _ (by rw [s4]; decide)), p32']
    · rw [frR f (by clear px px3 p3P p3F pP p4F; revert f; decide) (by clear px px3 p3P p3F pP p4F; revert f; decide) (by clear px px3 p3P p3F pP p4F; revert f; decide) (by clear px px3 p3P p3F pP p4F; revert f; decide) (by clear px px3 p3P p3F pP p4F; revert f; decide) (by clear px px3 p3P p3F pP p4F; revert f; decide)]
      exact sw_A (by clear px px3 p3P p3F pP p4F; revert f; decide)
  have hs14 : k_Sh Z2 P4 U2 (own + 1) n := hs13.keep (p4F _ _ (by decide))
  have hsp2 : k_Sp U2 own n := fun o ho => by rw [spU, u22]; exact kLk.1 o ho
  simp (decide := true) (disch := first | assumption | omega) only [↓u96_0, ↓u96_12, ↓u96_27, ↓u96_30, ↓x_nil, ↓x_om, ↓x_aload_0r, ↓x_aload_0n, ↓x_aload_0q, ↓x_iload_1, ↓x_invokevirtual, mt_12_121, x_ps0, x_ps1, x_l40, x_l41, x_l42, x_l43, x_l44, ↓x_cv1, ↓x_astore_2r, ↓x_astore_2n, ↓x_astore_2q, x_cl_i, x_cl_r, x_cl_n, x_cl_q, x_cl_0, x_cl_l, ↓x_aload_2r, ↓x_aload_2n, ↓x_aload_2q, ↓x_ifnonnull_n, ↓x_ifnonnull_r, ↓x_ifnonnull_q, ↓x_iconst_m1, ↓x_ireturn, rt96, ↓x_getfield, ft_12_125, ↓x_iconst_1, ↓x_icmp_ne, ft_12_130, ↓x_if_le, ↓x_bipush_m2, ft_12_38, mt_12_161, ↓x_pop_i, ↓x_pop_r, ↓x_pop_n, ↓x_pop_q, mt_12_165, ↓x_cv0, ↓x_putfield, ft_12_167, x_fit0, x_fit1, x_fit2r, x_fit2n, x_fit2q, ft_12_44, ↓x_new, ct_12_101, ↓x_dup_i, ↓x_dup_r, ↓x_dup_n, ↓x_iconst_4, ft_12_170, ↓x_iconst_0, ↓x_invokespecial, mt_12_103, ↓x_ci7_2, mt_12_106, mt_12_173, mt_12_176, ft_12_16, mt_12_177, ↓x_cv3, mt_12_181, ↓x_cv2, mt_12_185, ↓x_iconst_3, ↓x_null, mt_12_155, Int.reduceAdd, Nat.reduceAdd, true_and, and_true, true_or, or_true, false_or, or_false, reduceCtorEq, false_and, and_false, and_self, or_self, false_implies, true_implies, not_true_eq_false, not_false_eq_true, implies_true, Option.some.injEq, ki12, kg2, kv2_3, kv2_5, kg12, kv12_6, kiL30, kiL31, kiL32, kv2_10, kw2_10, k_rs, k_rn, k_r2, k_c2, kv12_7, kv2_0, ki7, ki4, kv12_1, kw2_3, up_s, up_n]
  refine h_logSize hg hA E2.1 b8 ?_
  rw [show own + 17 + 1 = own + 18 from rfl, len2]
  simp (decide := true) (disch := first | assumption | omega) only [↓u96_0, ↓u96_12, ↓u96_27, ↓u96_30, ↓x_nil, ↓x_om, ↓x_aload_0r, ↓x_aload_0n, ↓x_aload_0q, ↓x_iload_1, ↓x_invokevirtual, mt_12_121, x_ps0, x_ps1, x_l40, x_l41, x_l42, x_l43, x_l44, ↓x_cv1, ↓x_astore_2r, ↓x_astore_2n, ↓x_astore_2q, x_cl_i, x_cl_r, x_cl_n, x_cl_q, x_cl_0, x_cl_l, ↓x_aload_2r, ↓x_aload_2n, ↓x_aload_2q, ↓x_ifnonnull_n, ↓x_ifnonnull_r, ↓x_ifnonnull_q, ↓x_iconst_m1, ↓x_ireturn, rt96, ↓x_getfield, ft_12_125, ↓x_iconst_1, ↓x_icmp_ne, ft_12_130, ↓x_if_le, ↓x_bipush_m2, ft_12_38, mt_12_161, ↓x_pop_i, ↓x_pop_r, ↓x_pop_n, ↓x_pop_q, mt_12_165, ↓x_cv0, ↓x_putfield, ft_12_167, x_fit0, x_fit1, x_fit2r, x_fit2n, x_fit2q, ft_12_44, ↓x_new, ct_12_101, ↓x_dup_i, ↓x_dup_r, ↓x_dup_n, ↓x_iconst_4, ft_12_170, ↓x_iconst_0, ↓x_invokespecial, mt_12_103, ↓x_ci7_2, mt_12_106, mt_12_173, mt_12_176, ft_12_16, mt_12_177, ↓x_cv3, mt_12_181, ↓x_cv2, mt_12_185, ↓x_iconst_3, ↓x_null, mt_12_155, Int.reduceAdd, Nat.reduceAdd, true_and, and_true, true_or, or_true, false_or, or_false, reduceCtorEq, false_and, and_false, and_self, or_self, false_implies, true_implies, not_true_eq_false, not_false_eq_true, implies_true, Option.some.injEq, ki12, kg2, kv2_3, kv2_5, kg12, kv12_6, kiL30, kiL31, kiL32, kv2_10, kw2_10, k_rs, k_rn, k_r2, k_c2, kv12_7, kv2_0, ki7, ki4, kv12_1, kw2_3, up_s, up_n]
  refine s_tell (S := y_kaL cc (ch j).length (Sw j ne (ch j).length n cc S)) (A0 := S.2) (L := (ch j).reverse) (f0 := f0) (e := nI (ne + 1)) hg hA E2 td2 (by omega) (by omega) ((p4F _ _ (by decide)).trans f03') (by omega) ar1 hL3 (fun ρ y _ h2 h3 => by rw [act_frm hf4]; exact act3 ρ y h2 h3) (fun q hq => ?_) hsp2 n40 ((p4F _ _ (by decide)).trans pe3) hs14 hs54 hS54 hVe4 kw (fun o ho => ?_) (fun P5 hs15 hs55 hVe5 hV5 => ?_)
  · obtain ⟨z1, z2⟩ := row3 q hq
    refine ⟨z1, fun y hy => ?_⟩
    obtain ⟨y1, y2, y3, y4, _⟩ := z2 y hy
    rw [p4F _ _ (by decide), p4F _ _ (by decide), p4F _ _ (by decide), p4F _ _ (by decide)]
    exact ⟨y1, y2, y3, y4⟩
  · obtain ⟨v, v1, v2, v3, _⟩ := hV o ho
    exact ⟨v, v2, by omega, by rw [frR _ (by decide) (by decide) (by decide) (by decide) (by decide) (by decide), sw_A (by decide)]; exact v1⟩
  have p5F : ∀ f a, f ∉ fp_pf → f ≠ 183 → P5.1 f a = P3.1 f a := fun f a z1 z2 => (hV5.1 f a z2).trans (p4F f a z1)
  obtain ⟨nl', hnl, l2, l3, w3, hI'⟩ := I_ended hI0 h1 h2 hs hlv hi kp
  have hil : i < l := by have := (List.getElem?_eq_some_iff.mp hi).1; rw [v_lvl] at this; exact this
  obtain ⟨d1, d2, d3, d4, d5, d6, d7, d8, d9, d10, d11⟩ := hD
  have o15 : U2.2.1 (own + 15) = U.2.1 (own + 15) := uO _ (by omega) (by omega)
  have dli : ∀ u ∈ v_lv l S.2, 1 ≤ u ∧ u ≤ b := fun u hm => ⟨((d9 u).mp hm).1, ((d9 u).mp hm).2.1⟩
  have nd15 : (U2.2.1 (own + 15)).Nodup := by
    rw [o15, e6]
    unfold List.Nodup
    rw [List.pairwise_map]
    refine d8.imp_of_mem (fun {x y} hx hy hlt e => ?_)
    have := dl_inj e1 e2 (dli x hx).1 (dli x hx).2 (dli y hy).1 (dli y hy).2 e
    omega
  have len15 : (U2.2.1 (own + 15)).length = l := by rw [o15, e6, List.length_map, v_lvl]
  have hs0 : (U2.2.1 (own + 15))[i]? = some d := by rw [o15, e6, List.getElem?_map, hi, ← hd]; rfl
  have es0 : P5.1 52 d = nI i := by rw [p5F _ _ (by decide) (by decide), p3P _ _ dlt (by decide) (by decide) (Or.inl (by decide)), ← hd]; exact e7 i j hi
  have hsi : ∀ o o', o < n → o' < n → k_sp U2 own o = k_sp U2 own o' → o = o' := fun o o' ho ho' e => (E2.2.2.2.1 _ o _ o' _ (Or.inr b4) (Or.inr b4) (hsp2 o ho) (by rw [e]; exact hsp2 o' ho')).2
  have sne : ∀ o, o < n → k_sp U own o + 1 ≠ own + 16 ∧ k_sp U own o + 1 ≠ own + 18 ∧ k_sp U own o + 2 ≠ own + 16 ∧ k_sp U own o + 2 ≠ own + 18 ∧ k_sp U own o + 1 ≠ own + 15 ∧ k_sp U own o + 1 ≠ own + 14 ∧ k_sp U own o + 2 ≠ own + 15 := fun o ho => by
    obtain ⟨s1, s2, _⟩ := E.1.spt (spt o ho)
    refine ⟨fun z => ?_, fun z => ?_, fun z => ?_, fun z => ?_, fun z => ?_, fun z => ?_, fun z => ?_⟩
    · rw [z, a7] at s1; exact absurd s1 (by decide)
    · rw [z, show own + 18 = own + 17 + 1 from rfl, t18] at s1; exact absurd s1 (by decide)
    · rw [z, a7] at s2; exact absurd s2 (by decide)
    · rw [z, show own + 18 = own + 17 + 1 from rfl, t18] at s2; exact absurd s2 (by decide)
    · rw [z, a6] at s1; exact absurd s1 (by decide)
    · rw [z, a5] at s1; exact absurd s1 (by decide)
    · rw [z, a6] at s2; exact absurd s2 (by decide)
  have hl2 : ∀ o, o < n → k_hl U2 own o = k_hl U own o := fun o ho => by unfold k_hl; rw [spU]; exact uO _ (sne o ho).1 (sne o ho).2.1
  have ql2 : ∀ o, o < n → k_ql U2 own o = k_ql U own o := fun o ho => by unfold k_ql; rw [spU]; exact uO _ (sne o ho).2.2.1 (sne o ho).2.2.2.1
  have wn : U2.1 d = none := by rw [u1, ← hd]; exact (kLk.2.2.2.2.2 j h1 h2).1 (by rw [hs]; decide)
  simp (decide := true) (disch := first | assumption | omega) only [↓u96_0, ↓u96_12, ↓u96_27, ↓u96_30, ↓x_nil, ↓x_om, ↓x_aload_0r, ↓x_aload_0n, ↓x_aload_0q, ↓x_iload_1, ↓x_invokevirtual, mt_12_121, x_ps0, x_ps1, x_l40, x_l41, x_l42, x_l43, x_l44, ↓x_cv1, ↓x_astore_2r, ↓x_astore_2n, ↓x_astore_2q, x_cl_i, x_cl_r, x_cl_n, x_cl_q, x_cl_0, x_cl_l, ↓x_aload_2r, ↓x_aload_2n, ↓x_aload_2q, ↓x_ifnonnull_n, ↓x_ifnonnull_r, ↓x_ifnonnull_q, ↓x_iconst_m1, ↓x_ireturn, rt96, ↓x_getfield, ft_12_125, ↓x_iconst_1, ↓x_icmp_ne, ft_12_130, ↓x_if_le, ↓x_bipush_m2, ft_12_38, mt_12_161, ↓x_pop_i, ↓x_pop_r, ↓x_pop_n, ↓x_pop_q, mt_12_165, ↓x_cv0, ↓x_putfield, ft_12_167, x_fit0, x_fit1, x_fit2r, x_fit2n, x_fit2q, ft_12_44, ↓x_new, ct_12_101, ↓x_dup_i, ↓x_dup_r, ↓x_dup_n, ↓x_iconst_4, ft_12_170, ↓x_iconst_0, ↓x_invokespecial, mt_12_103, ↓x_ci7_2, mt_12_106, mt_12_173, mt_12_176, ft_12_16, mt_12_177, ↓x_cv3, mt_12_181, ↓x_cv2, mt_12_185, ↓x_iconst_3, ↓x_null, mt_12_155, Int.reduceAdd, Nat.reduceAdd, true_and, and_true, true_or, or_true, false_or, or_false, reduceCtorEq, false_and, and_false, and_self, or_self, false_implies, true_implies, not_true_eq_false, not_false_eq_true, implies_true, Option.some.injEq, ki12, kg2, kv2_3, kv2_5, kg12, kv12_6, kiL30, kiL31, kiL32, kv2_10, kw2_10, k_rs, k_rn, k_r2, k_c2, kv12_7, kv2_0, ki7, ki4, kv12_1, kw2_3, up_s, up_n]
  refine h_leave hg hA E2.1 tO2 hs15 hsp2 hsi (fun o ho => ⟨?_, ?_⟩) td2 (fun y hy => by rw [wn] at hy; cases hy) es0 hs0 nd15 (by omega) (fun U3 hm w3' => ?_)
  · rw [hl2 o ho, hl_len kLk ho]; have := n2 o; omega
  · rw [ql2 o ho]; have := ql_len kLk ho; have := hLk.2.2.1; omega
  have e22 : U3.2.2 = U2.2.2 := hm.2.1
  have m15 : U3.2.1 (own + 15) = U2.2.1 (own + 15) := hm.2.2.2 _ (fun o ho z => by rw [spU] at z; exact (sne o ho).2.2.2.2.1 z.symm)
  have E3 : k_E N own Z2 (k_wl (k_dpW P5 U3 own d) (own + 15) ((U2.2.1 (own + 15)).eraseIdx i)) r2 := E2.leave w3' e22 m15
  have eD : k_dpW P5 U3 own d = U3 := by
    unfold k_dpW
    rw [hm.1, wn]
  rw [eD] at E3 ⊢
  have tO3 : Z2.1 own = 13 := tO2
  simp (decide := true) (disch := first | assumption | omega) only [↓u96_0, ↓u96_12, ↓u96_27, ↓u96_30, ↓x_nil, ↓x_om, ↓x_aload_0r, ↓x_aload_0n, ↓x_aload_0q, ↓x_iload_1, ↓x_invokevirtual, mt_12_121, x_ps0, x_ps1, x_l40, x_l41, x_l42, x_l43, x_l44, ↓x_cv1, ↓x_astore_2r, ↓x_astore_2n, ↓x_astore_2q, x_cl_i, x_cl_r, x_cl_n, x_cl_q, x_cl_0, x_cl_l, ↓x_aload_2r, ↓x_aload_2n, ↓x_aload_2q, ↓x_ifnonnull_n, ↓x_ifnonnull_r, ↓x_ifnonnull_q, ↓x_iconst_m1, ↓x_ireturn, rt96, ↓x_getfield, ft_12_125, ↓x_iconst_1, ↓x_icmp_ne, ft_12_130, ↓x_if_le, ↓x_bipush_m2, ft_12_38, mt_12_161, ↓x_pop_i, ↓x_pop_r, ↓x_pop_n, ↓x_pop_q, mt_12_165, ↓x_cv0, ↓x_putfield, ft_12_167, x_fit0, x_fit1, x_fit2r, x_fit2n, x_fit2q, ft_12_44, ↓x_new, ct_12_101, ↓x_dup_i, ↓x_dup_r, ↓x_dup_n, ↓x_iconst_4, ft_12_170, ↓x_iconst_0, ↓x_invokespecial, mt_12_103, ↓x_ci7_2, mt_12_106, mt_12_173, mt_12_176, ft_12_16, mt_12_177, ↓x_cv3, mt_12_181, ↓x_cv2, mt_12_185, ↓x_iconst_3, ↓x_null, mt_12_155, Int.reduceAdd, Nat.reduceAdd, true_and, and_true, true_or, or_true, false_or, or_false, reduceCtorEq, false_and, and_false, and_self, or_self, false_implies, true_implies, not_true_eq_false, not_false_eq_true, implies_true, Option.some.injEq, ki12, kg2, kv2_3, kv2_5, kg12, kv12_6, kiL30, kiL31, kiL32, kv2_10, kw2_10, k_rs, k_rn, k_r2, k_c2, kv12_7, kv2_0, ki7, ki4, kv12_1, kw2_3, up_s, up_n]
  have q0 : ∀ f a, f ∉ [43, 52, 45] → (k_wr (k_seat ((U2.2.1 (own + 15)).eraseIdx i) (k_wr P5 45 d 0)) 43 d 3).1 f a = P5.1 f a := fun f a hf => by rw [k_rn (nmem hf (by decide)), k_stN (nmem hf (by decide)), k_rn (nmem hf (by decide))]
  have qd : ∀ f a, f ≠ 52 → a ≠ d → (k_wr (k_seat ((U2.2.1 (own + 15)).eraseIdx i) (k_wr P5 45 d 0)) 43 d 3).1 f a = P5.1 f a := fun f a hf ha => by
    by_cases c1 : f = 43
    · subst c1; rw [k_ra ha, k_stN hf, k_rn (by decide)]
    · rw [k_rn c1, k_stN hf]
      by_cases c2 : f = 45
      · subst c2; rw [k_ra ha]
      · rw [k_rn c2]
  have qs : (k_wr (k_seat ((U2.2.1 (own + 15)).eraseIdx i) (k_wr P5 45 d 0)) 43 d 3).1 43 d = 3 := k_rs
  have ql : (k_wr (k_seat ((U2.2.1 (own + 15)).eraseIdx i) (k_wr P5 45 d 0)) 43 d 3).1 45 d = 0 := by rw [k_rn (by decide), k_stN (by decide), k_rs]
  have qt : ∀ a ∈ (U2.2.1 (own + 15)).eraseIdx i, (k_wr (k_seat ((U2.2.1 (own + 15)).eraseIdx i) (k_wr P5 45 d 0)) 43 d 3).1 52 a = nI (k_ix a ((U2.2.1 (own + 15)).eraseIdx i)) := fun a ha => by rw [k_rn (by decide), k_stS ha]
  have q2 : (k_wr (k_seat ((U2.2.1 (own + 15)).eraseIdx i) (k_wr P5 45 d 0)) 43 d 3).2 = P5.2 := rfl
  generalize k_wr (k_seat ((U2.2.1 (own + 15)).eraseIdx i) (k_wr P5 45 d 0)) 43 d 3 = P7 at *
  have v22 : (k_wl U3 (own + 15) ((U2.2.1 (own + 15)).eraseIdx i)).2.2 = U.2.2 := by
    show U3.2.2 = U.2.2
    rw [e22, u22]
  have v1 : (k_wl U3 (own + 15) ((U2.2.1 (own + 15)).eraseIdx i)).1 = U.1 := by
    show U3.1 = U.1
    rw [hm.1, u1]
  have v15 : (k_wl U3 (own + 15) ((U2.2.1 (own + 15)).eraseIdx i)).2.1 (own + 15) = (U.2.1 (own + 15)).eraseIdx i := by rw [k_ls, o15]
  have v3 : ∀ a, a ≠ own + 15 → (k_wl U3 (own + 15) ((U2.2.1 (own + 15)).eraseIdx i)).2.1 a = U3.2.1 a := fun a ha => k_ln ha
  have v3O : ∀ a, (∀ o, o < n → a ≠ k_sp U own o + 1) → U3.2.1 a = U2.2.1 a := fun a ha => hm.2.2.2 a (fun o ho => by rw [spU]; exact ha o ho)
  have v3h : ∀ o, o < n → U3.2.1 (k_sp U own o + 1) = (k_hl U own o).filter (fun y => !k_goes Z2 P5 d 0 0 y) := fun o ho => by
    have := hm.2.2.1 o ho
    rw [spU] at this
    rw [this]
    have q := hl2 o ho
    unfold k_hl at q
    rw [spU] at q
    rw [q]
    rfl
  generalize k_wl U3 (own + 15) ((U2.2.1 (own + 15)).eraseIdx i) = U6 at *
  have p7P : ∀ f a, a < r.1 → f ∉ fp_ed → a ≠ own + 7 → P7.1 f a = P.1 f a := fun f a ha hf h7 => by
    rw [q0 f a (fun z => hf (by clear hf px px3 p3P p3F pP p4F p5F q0 qd; revert f; decide)), hV5.1 f a (nmem hf (by decide)), hf4.1 f a (fun z => absurd z h7) (fun _ => nmem hf (by decide))]
    exact p3P f a ha (nmem hf (by decide)) (nmem hf (by decide)) (Or.inl (nmem hf (by decide)))
  have lockT : ∀ o y, o < n → y ∈ k_hl U own o → Z.1 y = 4 := fun o y ho hy => E.1.llo (E.1.spt (spt o ho)).1 hy
  have goe : ∀ o y, o < n → y ∈ k_hl U own o → k_goes Z2 P5 d 0 0 y = decide (Z.2.2 y = d) := fun o y ho hy => by
    obtain ⟨u, qa, y1, y2, y3, y4, y5, y6⟩ := kLk.2.2.1 o ho y hy
    have ylt : y < r.1 := E.lt (by rw [lockT o y ho hy]; decide)
    have lv : ∃ v, v ≤ 4 ∧ P.1 66 y = nI v := by
      have hm2 : LV Z P (if (0 : Nat) = 0 then own else dl U own 0) y ∈ (v_LO (nI o) (v_L nl S.2)).map LN := by
        rw [← (kLk.2.1 o ho).1]
        exact List.mem_map_of_mem hy
      obtain ⟨z, z1, z2⟩ := List.mem_map.mp hm2
      have z1' : z ∈ v_L nl S.2 := by
        unfold v_LO at z1
        exact (List.mem_filter.mp z1).1
      obtain ⟨u', o', v, _, _, _, _, _, _, _, _, z9, z10, _⟩ := hLk.2.2.2.2.1 z z1'
      refine ⟨v, z10, ?_⟩
      have := congrArg (fun w : v_LT => w.2.2.2.2.2.1) z2
      exact this.symm.trans z9
    obtain ⟨v, v4, v5⟩ := lv
    have g1 : P5.1 66 y = nI v := by rw [p5F _ _ (by decide) (by decide), p3P _ _ ylt (by decide) (by decide) (Or.inl (by decide))]; exact v5
    have g2 : P5.1 65 y = nI qa := by rw [p5F _ _ (by decide) (by decide), p3P _ _ ylt (by decide) (by decide) (Or.inl (by decide))]; exact y5
    have g3 : qa ≤ 600 := by
      obtain ⟨_, _, _, q9, _, _, _, _, _, _, _, _, q10, q11, _⟩ := d3 u y1 y2
      rw [q10, i_cl (by omega)] at y6
      omega
    unfold k_goes
    rw [g1, g2, fZ2, decide_eq_true (nI_pos' (by omega)), decide_eq_true (nI_pos' (by omega)), Bool.and_true, Bool.and_true]
  have hK' : K_all N own n b (l - 1) nl' nw (nr + 1) (ne + 1) ch 0 Z2 P7 U6 r2 (Sf j ne nl i l (y_keep (nI (ne + 1)) (ch j).length n cc (y_en1 j ne S))) := by
    have th6 : ∀ s o, k_th U6 s o = k_th U s o := fun s o => by unfold k_th; rw [v22]
    refine K_ended (x := x) hI0 hK0 h1 h2 hs hlv hi kp l3 w3 E3 (fun a _ => fZ2 a) p7P (fun o ho => ?_) (fun a ha h8 hth hsp => ?_) (fun f hf u u1 u2 hne => ?_) ?_ (by rw [hd]; exact ql) (by rw [hd]; exact qs) (fun a ha => ?_) ?_ (by omega) (fun f hf => ?_) ?_ v15 ?_ ?_ (fun o ho => ?_) (fun o ho => ?_) v22 (fun u _ _ => by rw [v1]) ?_ ?_ ?_ ?_
    · rw [q0 _ _ (by decide), hV5.1 _ _ (by decide), hf4.1 _ _ (fun z => by
        have := (k_th_t E.1 hs1 ho).1
        rw [z, show own + 5 + 2 = own + 7 from rfl] at this
        have t7 := (E.1.shf a2).2.1
        rw [show own + 5 + 2 = own + 7 from rfl, this] at t7
        exact absurd t7 (by decide)) (fun ⟨o', ho', z⟩ => by
        exfalso
        rw [thU] at z
        have t5 := (E.1.shf hs5.1).1
        have t1 := (E.1.shf hs1.1).1
        have := (E.2.2.2.1 _ o' _ o _ (Or.inl t5) (Or.inl t1) (hs5.2.2.2 o' ho') (by rw [← z]; exact hs1.2.2.2 o ho)).1
        omega)]
      exact p3P _ _ (E.lt (by rw [(k_th_t E.1 hs1 ho).1]; decide)) (by decide) (by decide) (Or.inl (by decide))
    · rw [q2, hV5.2 a (fun o ho => by rw [spU]; exact hsp o ho), hf4.2 a h8 (fun o ho => by rw [thU]; exact hth o ho), p32']
    · have une : dl U own u ≠ d := fun z => hne (dl_inj e1 e2 u1 u2 h1 h2 (z.trans hd.symm))
      have udl : dl U own u < r.1 := E.lt (by rw [(dl_t E e1 u1 u2).1]; decide)
      rw [qd f _ (by rcases hf with h | h | h <;> subst h <;> decide) une, p5F f _ (by rcases hf with h | h | h <;> subst h <;> decide) (by rcases hf with h | h | h <;> subst h <;> decide)]
      exact p3P f _ udl (by rcases hf with h | h | h <;> subst h <;> decide) (by rcases hf with h | h | h <;> subst h <;> decide) (Or.inr une)
    · rw [hd, q0 _ _ (by decide), p5F _ _ (by decide) (by decide)]; exact pe3
    · rw [← o15] at ha ⊢
      exact qt a ha
    · rw [q0 _ _ (by decide), q0 _ _ (by decide), p5F _ _ (by decide) (by decide), p5F _ _ (by decide) (by decide)]; exact plog
    · rw [q0 f _ (by clear px px3 p3P p3F pP p4F p5F q0 qd p7P; revert f; decide), p5F f _ (by clear px px3 p3P p3F pP p4F p5F q0 qd p7P; revert f; decide) (by clear px px3 p3P p3F pP p4F p5F q0 qd p7P; revert f; decide)]
      exact px3 f (by clear px px3 p3P p3F pP p4F p5F q0 qd p7P; revert f; decide) (by clear px px3 p3P p3F pP p4F p5F q0 qd p7P; revert f; decide)
    · rw [v3 _ (by omega), v3O _ (fun o ho z => (sne o ho).2.2.2.2.2.1 z.symm)]
      exact uO _ (by omega) (by omega)
    · rw [v3 _ (by omega), v3O _ (fun o ho z => (sne o ho).1 z.symm), u16, hd]
    · rw [v3 _ (by omega), v3O _ (fun o ho z => (sne o ho).2.1 z.symm), u18]
    · rw [v3 _ (sne o ho).2.2.2.2.1, v3h o ho, hd]
      refine List.filter_congr (fun y hy => ?_)
      rw [goe o y ho hy, decide_not]
    · rw [v3 _ (sne o ho).2.2.2.2.2.2, v3O _ (fun o' ho' z => (sp_ne E kLk.1 ho ho').2.1 z)]
      exact uO _ (sne o ho).2.2.1 (sne o ho).2.2.2.1
    · refine ⟨b1, ?_, hs1.2.2.1, fun o ho => ?_⟩
      · rw [q0 _ _ (by decide)]; exact hs15.2.1
      · rw [th6, v22]; exact hs1.2.2.2 o ho
    · refine ⟨b2, ?_, hs5.2.2.1, fun o ho => ?_⟩
      · rw [q0 _ _ (by decide)]; exact hs55.2.1
      · rw [th6, v22]; exact hs5.2.2.2 o ho
    · refine R_sh.cgU (U := U2) ?_ (fun o _ => by rw [th6, thU])
      refine hS54.keep (fun f hf o ho => ?_) (fun o ho => ?_) (ykv_A (by decide) _ _ _) (ykv_A (by decide) _ _ _) (ykv_A (by decide) _ _ _) (fun o _ => ⟨congrFun (ykv_A (by decide) _ _ _) _, congrFun (ykv_A (by decide) _ _ _) _, congrFun (ykv_A (by decide) _ _ _) _⟩) (fun y _ _ => congrFun (ykv_A (by decide) _ _ _) _)
      · rw [q0 f _ (by rcases hf with h | h | h | h <;> subst h <;> decide)]
        exact hV5.1 f _ (by rcases hf with h | h | h | h <;> subst h <;> decide)
      · rw [q2]
        refine hV5.2 _ (fun o' ho' => ⟨fun z => ?_, fun z => ?_⟩)
        · have t := (k_th_t E.1 hs5 ho).2
          rw [thU, spU] at z
          rw [z, (E.1.spt (spt o' ho')).2.2.1] at t
          exact absurd t (by decide)
        · have t := (k_th_t E.1 hs5 ho).2
          rw [thU, spU] at z
          rw [z, (E.1.spt (spt o' ho')).2.2.2] at t
          exact absurd t (by decide)
    · refine hVe5.cg (fun o => by rw [spU]; unfold k_sp; rw [v22]) (fun o ho => ⟨q0 _ _ (by decide), by rw [q2], by rw [q2]⟩) (fun f _ => rfl)
  have laS : (Sf j ne nl i l (y_keep (nI (ne + 1)) (ch j).length n cc (y_en1 j ne S))).1 66 = S.1 66 := (sf_F (by decide)).trans (kp.1 _ (by decide))
  have enS : (Sf j ne nl i l (y_keep (nI (ne + 1)) (ch j).length n cc (y_en1 j ne S))).2 58 j = nI (ne + 1) := by rw [sf_A (by decide) (by decide) (by decide), kp.2.2.2.2.1, up_s]
  refine s_settle0 hg hA hI' hK' (fun Z8 P8 U8 r8 S8 l8 nl8 nw8 nr8 na8 ch8 x8 y8 f8 hI8 hK8 hdl ro8 la8 h48 hr8 => ?_)
  have d8 : dl U8 own j = d := by
    rw [hdl j, ← hd]
    unfold dl
    rw [v3 _ (by omega), v3O _ (fun o ho z => (sne o ho).2.2.2.2.2.1 z.symm), uO _ (by omega) (by omega)]
  have td8 : Z8.1 d = 3 := by rw [← d8]; exact (dl_t hK8.1 hK8.2.2.2.2.1.1 h1 h2).1
  have pe8 : P8.1 50 d = nI (ne + 1) := by
    have := hK8.2.2.2.2.1.p h1 h2 (50, 58) (by decide)
    rw [d8] at this
    rw [this, en_settle _ _ _ hr8]
    exact enS
  simp (decide := true) (disch := first | assumption | omega) only [↓u96_0, ↓u96_12, ↓u96_27, ↓u96_30, ↓x_nil, ↓x_om, ↓x_aload_0r, ↓x_aload_0n, ↓x_aload_0q, ↓x_iload_1, ↓x_invokevirtual, mt_12_121, x_ps0, x_ps1, x_l40, x_l41, x_l42, x_l43, x_l44, ↓x_cv1, ↓x_astore_2r, ↓x_astore_2n, ↓x_astore_2q, x_cl_i, x_cl_r, x_cl_n, x_cl_q, x_cl_0, x_cl_l, ↓x_aload_2r, ↓x_aload_2n, ↓x_aload_2q, ↓x_ifnonnull_n, ↓x_ifnonnull_r, ↓x_ifnonnull_q, ↓x_iconst_m1, ↓x_ireturn, rt96, ↓x_getfield, ft_12_125, ↓x_iconst_1, ↓x_icmp_ne, ft_12_130, ↓x_if_le, ↓x_bipush_m2, ft_12_38, mt_12_161, ↓x_pop_i, ↓x_pop_r, ↓x_pop_n, ↓x_pop_q, mt_12_165, ↓x_cv0, ↓x_putfield, ft_12_167, x_fit0, x_fit1, x_fit2r, x_fit2n, x_fit2q, ft_12_44, ↓x_new, ct_12_101, ↓x_dup_i, ↓x_dup_r, ↓x_dup_n, ↓x_iconst_4, ft_12_170, ↓x_iconst_0, ↓x_invokespecial, mt_12_103, ↓x_ci7_2, mt_12_106, mt_12_173, mt_12_176, ft_12_16, mt_12_177, ↓x_cv3, mt_12_181, ↓x_cv2, mt_12_185, ↓x_iconst_3, ↓x_null, mt_12_155, Int.reduceAdd, Nat.reduceAdd, true_and, and_true, true_or, or_true, false_or, or_false, reduceCtorEq, false_and, and_false, and_self, or_self, false_implies, true_implies, not_true_eq_false, not_false_eq_true, implies_true, Option.some.injEq, pe8, ki12, kg2, kv2_3, kv2_5, kg12, kv12_6, kiL30, kiL31, kiL32, kv2_10, kw2_10, k_rs, k_rn, k_r2, k_c2, kv12_7, kv2_0, ki7, ki4, kv12_1, kw2_3, up_s, up_n]
  refine q Z8 P8 U8 r8 S8 l8 nl8 nw8 nr8 na8 ch8 x8 y8 hI8 hK8 ((ro2.tr ro8).le (by omega) (by omega)) (by rw [la8, laS]) (cEnd_ok hI0 h1 h2 hs hlv hi kp rfl wk hr8)
theorem t_end (hg : e_GK g) (hA : e_AK g) {t : Int32} : TW g own r0 96 232 [.int t] := by
  intro c Z P U r S B Ψ hc hV q
  have hV0 := hV
  obtain ⟨N, n, b, l, nl, nw, nr, na, ne, ch, T, hI, hK, hR⟩ := hV
  have b400 := hI.2.1.1
  have tO := hK.1.2.1
  have kDe := hK.2.2.2.2.1
  have hb : S.1 44 = nI b := hI.2.1.2.1
  refine e_call (cd := cd96) hg ok96 (by rw [mL96]; exact Nat.le_of_ble_eq_true rfl) ?_
  rw [mL96]
  simp only [x_ini, x_inr, x_inn, x_inq, x_inl, x_in0, x_rp0, x_rps, Nat.reduceSub]
  simp (decide := true) (disch := first | assumption | omega) only [↓u96_0, ↓u96_12, ↓x_nil, ↓x_om, ↓x_aload_0r, ↓x_aload_0n, ↓x_aload_0q, ↓x_iload_1, ↓x_invokevirtual, mt_12_121, x_ps0, x_ps1, x_l40, x_l41, x_l42, x_l43, x_l44, ↓x_cv1, ↓x_astore_2r, ↓x_astore_2n, ↓x_astore_2q, x_cl_i, x_cl_r, x_cl_n, x_cl_q, x_cl_0, x_cl_l, ↓x_aload_2r, ↓x_aload_2n, ↓x_aload_2q, ↓x_ifnonnull_n, ↓x_ifnonnull_r, ↓x_ifnonnull_q, ↓x_iconst_m1, ↓x_ireturn, rt96, ↓x_getfield, ft_12_125, ↓x_iconst_1, ↓x_icmp_ne, ft_12_130, ↓x_if_le, ↓x_bipush_m2, ft_12_38, mt_12_161, ↓x_pop_i, ↓x_pop_r, ↓x_pop_n, ↓x_pop_q, mt_12_165, ↓x_cv0, ↓x_putfield, ft_12_167, x_fit0, x_fit1, x_fit2r, x_fit2n, x_fit2q, ft_12_44, ↓x_new, ct_12_101, ↓x_dup_i, ↓x_dup_r, ↓x_dup_n, ↓x_iconst_4, ft_12_170, ↓x_iconst_0, ↓x_invokespecial, mt_12_103, ↓x_ci7_2, mt_12_106, mt_12_173, mt_12_176, ft_12_16, mt_12_177, ↓x_cv3, mt_12_181, ↓x_cv2, mt_12_185, ↓x_iconst_3, ↓x_null, mt_12_155, Int.reduceAdd, Nat.reduceAdd, true_and, and_true, true_or, or_true, false_or, or_false, reduceCtorEq, false_and, and_false, and_self, or_self, false_implies, true_implies, not_true_eq_false, not_false_eq_true, implies_true, Option.some.injEq, ki12, kg2, kv2_3, kv2_5, kg12, kv12_6, kiL30, kiL31, kiL32, kv2_10, kw2_10, k_rs, k_rn, k_r2, k_c2, kv12_7, kv2_0, ki7, ki4, kv12_1, kw2_3, up_s, up_n]
  refine h_dealOf hg hA hK.1.1 tO (by rw [kDe.1]; omega) ?_
  rcases dO_ok kDe.1 b400 t with ⟨e, hi⟩ | ⟨j, j1, j2, et, e, hi⟩
  · rw [e, k_rfn]
    simp (decide := true) (disch := first | assumption | omega) only [↓u96_0, ↓u96_12, ↓x_nil, ↓x_om, ↓x_aload_0r, ↓x_aload_0n, ↓x_aload_0q, ↓x_iload_1, ↓x_invokevirtual, mt_12_121, x_ps0, x_ps1, x_l40, x_l41, x_l42, x_l43, x_l44, ↓x_cv1, ↓x_astore_2r, ↓x_astore_2n, ↓x_astore_2q, x_cl_i, x_cl_r, x_cl_n, x_cl_q, x_cl_0, x_cl_l, ↓x_aload_2r, ↓x_aload_2n, ↓x_aload_2q, ↓x_ifnonnull_n, ↓x_ifnonnull_r, ↓x_ifnonnull_q, ↓x_iconst_m1, ↓x_ireturn, rt96, ↓x_getfield, ft_12_125, ↓x_iconst_1, ↓x_icmp_ne, ft_12_130, ↓x_if_le, ↓x_bipush_m2, ft_12_38, mt_12_161, ↓x_pop_i, ↓x_pop_r, ↓x_pop_n, ↓x_pop_q, mt_12_165, ↓x_cv0, ↓x_putfield, ft_12_167, x_fit0, x_fit1, x_fit2r, x_fit2n, x_fit2q, ft_12_44, ↓x_new, ct_12_101, ↓x_dup_i, ↓x_dup_r, ↓x_dup_n, ↓x_iconst_4, ft_12_170, ↓x_iconst_0, ↓x_invokespecial, mt_12_103, ↓x_ci7_2, mt_12_106, mt_12_173, mt_12_176, ft_12_16, mt_12_177, ↓x_cv3, mt_12_181, ↓x_cv2, mt_12_185, ↓x_iconst_3, ↓x_null, mt_12_155, Int.reduceAdd, Nat.reduceAdd, true_and, and_true, true_or, or_true, false_or, or_false, reduceCtorEq, false_and, and_false, and_self, or_self, false_implies, true_implies, not_true_eq_false, not_false_eq_true, implies_true, Option.some.injEq, ki12, kg2, kv2_3, kv2_5, kg12, kv12_6, kiL30, kiL31, kiL32, kv2_10, kw2_10, k_rs, k_rn, k_r2, k_c2, kv12_7, kv2_0, ki7, ki4, kv12_1, kw2_3, up_s, up_n]
    exact q (-1) Z P U r S (hV0.next hc) (fun M h Φ hq => c_end hg (Or.inl ⟨by rw [hb]; exact hi, rfl, rfl⟩) hq)
  · have td := (dl_t hK.1 kDe.1 j1 j2).1
    have est := (kDe.2.2.1 j j1 j2).2.2.2.1
    have elv := (kDe.2.2.1 j j1 j2).2.2.2.2.2.1
    obtain ⟨st, lv, m, qq, z1, z2, z3, z4, z5, z6, _⟩ := hI.2.1.2.2.1 j j1 j2
    have bad : ¬ (S.2 47 j = 1 ∧ S.2 51 j ≤ 0) → e_Sm g 96 12 cd96 Ψ 27 [some (.ref own), some (.int t), some (.ref (dl U own j))] [] (K_H Z P U (B, r)) := fun hn => by
      rw [u96_27]
      simp (decide := true) (disch := first | assumption | omega) only [↓u96_0, ↓u96_12, ↓u96_27, ↓x_nil, ↓x_om, ↓x_aload_0r, ↓x_aload_0n, ↓x_aload_0q, ↓x_iload_1, ↓x_invokevirtual, mt_12_121, x_ps0, x_ps1, x_l40, x_l41, x_l42, x_l43, x_l44, ↓x_cv1, ↓x_astore_2r, ↓x_astore_2n, ↓x_astore_2q, x_cl_i, x_cl_r, x_cl_n, x_cl_q, x_cl_0, x_cl_l, ↓x_aload_2r, ↓x_aload_2n, ↓x_aload_2q, ↓x_ifnonnull_n, ↓x_ifnonnull_r, ↓x_ifnonnull_q, ↓x_iconst_m1, ↓x_ireturn, rt96, ↓x_getfield, ft_12_125, ↓x_iconst_1, ↓x_icmp_ne, ft_12_130, ↓x_if_le, ↓x_bipush_m2, ft_12_38, mt_12_161, ↓x_pop_i, ↓x_pop_r, ↓x_pop_n, ↓x_pop_q, mt_12_165, ↓x_cv0, ↓x_putfield, ft_12_167, x_fit0, x_fit1, x_fit2r, x_fit2n, x_fit2q, ft_12_44, ↓x_new, ct_12_101, ↓x_dup_i, ↓x_dup_r, ↓x_dup_n, ↓x_iconst_4, ft_12_170, ↓x_iconst_0, ↓x_invokespecial, mt_12_103, ↓x_ci7_2, mt_12_106, mt_12_173, mt_12_176, ft_12_16, mt_12_177, ↓x_cv3, mt_12_181, ↓x_cv2, mt_12_185, ↓x_iconst_3, ↓x_null, mt_12_155, Int.reduceAdd, Nat.reduceAdd, true_and, and_true, true_or, or_true, false_or, or_false, reduceCtorEq, false_and, and_false, and_self, or_self, false_implies, true_implies, not_true_eq_false, not_false_eq_true, implies_true, Option.some.injEq, ki12, kg2, kv2_3, kv2_5, kg12, kv12_6, kiL30, kiL31, kiL32, kv2_10, kw2_10, k_rs, k_rn, k_r2, k_c2, kv12_7, kv2_0, ki7, ki4, kv12_1, kw2_3, up_s, up_n]
      exact q (-2) Z P U r S (hV0.next hc) (fun M h Φ hq => c_end hg (Or.inr ⟨j, by omega, et, by rw [hb]; exact hi, Or.inl ⟨hn, rfl, rfl⟩⟩) hq)
    rw [e, k_rfs]
    simp (decide := true) (disch := first | assumption | omega) only [↓u96_0, ↓u96_12, ↓x_nil, ↓x_om, ↓x_aload_0r, ↓x_aload_0n, ↓x_aload_0q, ↓x_iload_1, ↓x_invokevirtual, mt_12_121, x_ps0, x_ps1, x_l40, x_l41, x_l42, x_l43, x_l44, ↓x_cv1, ↓x_astore_2r, ↓x_astore_2n, ↓x_astore_2q, x_cl_i, x_cl_r, x_cl_n, x_cl_q, x_cl_0, x_cl_l, ↓x_aload_2r, ↓x_aload_2n, ↓x_aload_2q, ↓x_ifnonnull_n, ↓x_ifnonnull_r, ↓x_ifnonnull_q, ↓x_iconst_m1, ↓x_ireturn, rt96, ↓x_getfield, ft_12_125, ↓x_iconst_1, ↓x_icmp_ne, ft_12_130, ↓x_if_le, ↓x_bipush_m2, ft_12_38, mt_12_161, ↓x_pop_i, ↓x_pop_r, ↓x_pop_n, ↓x_pop_q, mt_12_165, ↓x_cv0, ↓x_putfield, ft_12_167, x_fit0, x_fit1, x_fit2r, x_fit2n, x_fit2q, ft_12_44, ↓x_new, ct_12_101, ↓x_dup_i, ↓x_dup_r, ↓x_dup_n, ↓x_iconst_4, ft_12_170, ↓x_iconst_0, ↓x_invokespecial, mt_12_103, ↓x_ci7_2, mt_12_106, mt_12_173, mt_12_176, ft_12_16, mt_12_177, ↓x_cv3, mt_12_181, ↓x_cv2, mt_12_185, ↓x_iconst_3, ↓x_null, mt_12_155, Int.reduceAdd, Nat.reduceAdd, true_and, and_true, true_or, or_true, false_or, or_false, reduceCtorEq, false_and, and_false, and_self, or_self, false_implies, true_implies, not_true_eq_false, not_false_eq_true, implies_true, Option.some.injEq, est, elv, ki12, kg2, kv2_3, kv2_5, kg12, kv12_6, kiL30, kiL31, kiL32, kv2_10, kw2_10, k_rs, k_rn, k_r2, k_c2, kv12_7, kv2_0, ki7, ki4, kv12_1, kw2_3, up_s, up_n]
    refine ⟨fun c1 => ⟨fun c2 => ?_, fun c2 => bad (fun z => c2 z.2)⟩, fun c1 => bad (fun z => c1 z.1)⟩
    have lv0 : S.2 51 j = 0 := by
      rw [z4, show (0 : Int32) = nI 0 from rfl, i_le (by omega) (by omega)] at c2
      rw [z4, show lv = 0 by omega]; rfl
    refine s_end30 hg hA hI hK j1 j2 c1 lv0 (fun Z' P' U' r' S' l' nl' nw' nr' na' ch' x y hI2 hK2 ro2 la hr => ?_)
    refine q _ Z' P' U' r' S' ⟨N, n, b, l', nl', nw', nr', na', ne + 1, ch', T + (1 + x), by rw [show T + (1 + x) = T + 1 + x by omega]; exact hI2.next hc, hK2, hR.step ro2 (dL := y) (by rw [la]) (by omega) (by omega)⟩ (fun M h Φ hq => c_end hg (by rw [et]; exact hr) hq)
end UP
