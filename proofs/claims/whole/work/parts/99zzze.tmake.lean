/-! make, as a call -/
section VH
variable {g : e_G} {own : Nat} {r0 : Nat × Nat}
theorem t_make (hg : e_GK g) (hA : e_AK g) {so p v : Int32} : TW g own r0 87 160 [.int so, .int p, .int v] := by
  intro c Z P U r S B Ψ hc hV q
  have hV0 := hV
  obtain ⟨N, n, b, l, nl, nw, nr, na, ne, ch, T, hI, hK, hR⟩ := hV
  have hK0 := hK
  obtain ⟨E, kLg, ⟨hs1, hS⟩, ⟨hs5, hS5⟩, kDe, kEn, kAs, kLk, kVe, kMi⟩ := hK
  have tO := E.2.1
  obtain ⟨a1, a2, a3, a4, a5, a6, a7, a8, a9, a10⟩ := E.1.hse tO
  have n40 : n ≤ 40 := hs1.2.2.1
  have nr11 : nr ≤ 1100 := by
    obtain ⟨p1, p2, p3, _⟩ := hI.2.2.2.2.2.2.1
    omega
  have len15 : (U.2.1 (own + 15)).length = l := by rw [kDe.2.2.2.2.2.1, List.length_map, v_lvl]
  have ell : S.1 45 = nI l := hI.2.1.2.2.2.2.1
  have l12 := hI.2.1.2.2.2.2.2.1
  have eob : S.1 3 = nI n := hI.2.2.2.2.2.1.1
  have sz : P.1 161 (own + 1) = nI n := hs1.2.1
  have rin : vp_in (S.1 13) 6000 := by rw [hI.1.1]; exact vp_in_nI (by omega) (by omega)
  have fin : ∀ S' y, y_make so p v n (S.1, S.2) = (y, S') → ∀ Z' P' U' r', V own (c + 1) r0 Z' P' U' r' S' → Ψ (some (.int y)) (K_H Z' P' U' (B, r')) := fun S' y e Z' P' U' r' hV' => q y Z' P' U' r' S' hV' (fun M h Φ hq => c_make hg n40 eob rin (by rw [e]; exact hq))
  have bad : ¬ (y_isIn so 0 7 = true ∧ (p = -1 ∨ (y_isIn p 0 (nI n - 1) = true ∧ S.2 4 p.toNatClampNeg = 0)) ∧ (so = 6 → y_isIn v 0 1000000000 = true)) → Ψ (some (.int (-1))) (K_H Z P U (B, r)) := fun z => fin S (-1) (by unfold y_make; rw [if_neg z]) Z P U r (hV0.next hc)
  have core : ∀ z dd w4 w5, z < 8 → so = nI z → dd ≤ 5 → (z = 0 → dd ≤ 4) → ((p = -1 ∧ dd = 0) ∨ ∃ q, q < n ∧ p = nI q ∧ S.2 4 q = 0 ∧ S.2 7 q = nI dd) → l = 0 → n < 40 → y_make so p v n (S.1, S.2) = (nI n, y_md so p v (nI (dd + 1)) n S) → e_Sm g 87 12 cd87 Ψ 141 [some (.ref own), some (.int so), some (.int p), some (.int v), w4, w5, some (.int (nI n)), none] [.int (if k_hv so = true then v else 0)] (K_H Z P U (B, r)) := by
    intro z dd w4 w5 hz ez hd h0 hp l0 n4 ey
    have mk : Mk so p v (nI (dd + 1)) n nr S (y_md so p v (nI (dd + 1)) n S) := mk_ok hI.1.1 n4 (by omega)
    generalize y_md so p v (nI (dd + 1)) n S = S' at *
    have hI' := I_make hI hc l0 n4 mk hz ez rfl hd h0 hp
    have hv : k_hv so = true → (if k_hv so = true then v else 0) = v := fun h => if_pos h
    have ew : (if y_cnt so = true then v else 0) = (if k_hv so = true then v else 0) := rfl
    have rwn := mk.2.2.2.2.2.2.1
    rw [ew] at rwn
    generalize (if k_hv so = true then v else 0) = vv at *
    have hp2 : p = -1 ∨ ∃ q, q < n ∧ p = nI q := by
      rcases hp with h | ⟨q, q1, q2, _⟩
      · exact Or.inl h.1
      · exact Or.inr ⟨q, q1, q2⟩
    have edp : (if p = -1 then (1 : Int32) else S.2 7 p.toNatClampNeg + 1) = nI (dd + 1) := by
      rcases hp with ⟨h, h'⟩ | ⟨q, q1, q2, _, q3⟩
      · rw [if_pos h, h']; rfl
      · have ne : ¬ p = -1 := fun z => by
          rw [q2] at z
          have h0 : (0 : Int32) ≤ nI q := nI_pos' (by omega)
          rw [z] at h0
          exact absurd h0 (by decide)
        rw [if_neg ne, q2, i_cl (by omega), q3, i_a1]
    rw [u87_141]
    simp (decide := true) (disch := first | assumption | omega) only [↓u87_0, ↓u87_10, ↓u87_12, ↓u87_40, ↓u87_42, ↓u87_58, ↓u87_60, ↓u87_73, ↓u87_97, ↓u87_98, ↓u87_117, ↓u87_120, ↓u87_140, ↓u87_141, ↓x_nil, ↓x_om, ↓x_iload_1, ↓x_if_lt, ↓x_bipush_8, ↓x_icmp_lt, ↓x_iconst_m1, ↓x_ireturn, rt87, ↓x_aload_0r, ↓x_aload_0n, ↓x_aload_0q, ↓x_getfield, ft_12_12, ↓x_iload_2, ↓x_invokevirtual, mt_12_69, x_ps0, x_ps1, x_l40, x_l41, x_l42, x_l43, x_l44, ↓x_cv1, ↓x_astore_4r, ↓x_astore_4n, ↓x_astore_4q, x_cl_i, x_cl_r, x_cl_n, x_cl_q, x_cl_0, x_cl_l, ↓x_icmp_eq, ↓x_aload_4r, ↓x_aload_4n, ↓x_aload_4q, ↓x_ifnull_n, ↓x_ifnull_r, ↓x_ifnull_q, ft_12_73, ↓x_if_eq, ↓x_bipush_6, ↓x_icmp_ne, ↓x_iload_3, ↓x_ldc, it_12_78, ↓x_icmp_le, ft_12_35, mt_12_79, ↓x_cv0, ↓x_if_ne, ↓x_bipush_m2, ft_12_83, ↓x_iconst_1, ↓x_iadd, ↓x_iconst_5, ↓x_goto, ↓x_iconst_0, ↓x_istore_5, ft_12_86, ↓x_bipush_40, ↓x_icmp_ge, ↓x_iload_5, ↓x_bipush_m3, ↓x_istore_6, ↓x_invokestatic, mt_12_89, ↓x_cs1_1, ↓x_istore_7, ↓x_iload_7, mt_12_93, ↓x_cv3, ft_12_16, ↓x_iload_6, mt_12_97, ft_12_44, ↓x_new, ct_12_101, ↓x_dup_i, ↓x_dup_r, ↓x_dup_n, ↓x_invokespecial, mt_12_103, ↓x_ci7_2, mt_12_106, Int.reduceAdd, Nat.reduceAdd, true_and, and_true, true_or, or_true, false_or, or_false, reduceCtorEq, false_and, and_false, and_self, or_self, false_implies, true_implies, not_true_eq_false, not_false_eq_true, implies_true, Option.some.injEq, kg12, kv12_0, ki8, kg11, kv11_0, kv12_5, kiL30, kiL31, kiL32, kv11_2, kg8, kv8_1, kv12_1, ki12, kv12_7, ki7, ki4, up_s, up_n]
    refine s_put hg (m := r.1) (sl := r.2) E hs1 n4 (fun x1 Z1 P1 U1 r1 pt1 _ => ?_)
    have E1 := pt1.1
    have tO1 : Z1.1 own = 13 := E1.2.1
    obtain ⟨b1, b2, b3, b4, b5, b6, b7, b8, b9, b10⟩ := E1.1.hse tO1
    obtain ⟨k5, R5⟩ := pt1.other (s2 := own + 5) E a1 (by omega) hs5 hS5
    obtain ⟨k1, R1, th1, _⟩ := put_sh hS hs1 E n4 (Or.inl rfl) (pt1.val hv) mk ((dep_ok hS n40 hp2).trans edp)
    simp (decide := true) (disch := first | assumption | omega) only [↓u87_0, ↓u87_10, ↓u87_12, ↓u87_40, ↓u87_42, ↓u87_58, ↓u87_60, ↓u87_73, ↓u87_97, ↓u87_98, ↓u87_117, ↓u87_120, ↓u87_140, ↓u87_141, ↓x_nil, ↓x_om, ↓x_iload_1, ↓x_if_lt, ↓x_bipush_8, ↓x_icmp_lt, ↓x_iconst_m1, ↓x_ireturn, rt87, ↓x_aload_0r, ↓x_aload_0n, ↓x_aload_0q, ↓x_getfield, ft_12_12, ↓x_iload_2, ↓x_invokevirtual, mt_12_69, x_ps0, x_ps1, x_l40, x_l41, x_l42, x_l43, x_l44, ↓x_cv1, ↓x_astore_4r, ↓x_astore_4n, ↓x_astore_4q, x_cl_i, x_cl_r, x_cl_n, x_cl_q, x_cl_0, x_cl_l, ↓x_icmp_eq, ↓x_aload_4r, ↓x_aload_4n, ↓x_aload_4q, ↓x_ifnull_n, ↓x_ifnull_r, ↓x_ifnull_q, ft_12_73, ↓x_if_eq, ↓x_bipush_6, ↓x_icmp_ne, ↓x_iload_3, ↓x_ldc, it_12_78, ↓x_icmp_le, ft_12_35, mt_12_79, ↓x_cv0, ↓x_if_ne, ↓x_bipush_m2, ft_12_83, ↓x_iconst_1, ↓x_iadd, ↓x_iconst_5, ↓x_goto, ↓x_iconst_0, ↓x_istore_5, ft_12_86, ↓x_bipush_40, ↓x_icmp_ge, ↓x_iload_5, ↓x_bipush_m3, ↓x_istore_6, ↓x_invokestatic, mt_12_89, ↓x_cs1_1, ↓x_istore_7, ↓x_iload_7, mt_12_93, ↓x_cv3, ft_12_16, ↓x_iload_6, mt_12_97, ft_12_44, ↓x_new, ct_12_101, ↓x_dup_i, ↓x_dup_r, ↓x_dup_n, ↓x_invokespecial, mt_12_103, ↓x_ci7_2, mt_12_106, Int.reduceAdd, Nat.reduceAdd, true_and, and_true, true_or, or_true, false_or, or_false, reduceCtorEq, false_and, and_false, and_self, or_self, false_implies, true_implies, not_true_eq_false, not_false_eq_true, implies_true, Option.some.injEq, kg12, kv12_0, ki8, kg11, kv11_0, kv12_5, kiL30, kiL31, kiL32, kv11_2, kg8, kv8_1, kv12_1, ki12, kv12_7, ki7, ki4, up_s, up_n]
    refine s_put hg (m := r1.1) (sl := r1.2) E1 k5 n4 (fun x2 Z2 P2 U2 r2 pt2 _ => ?_)
    have E2 := pt2.1
    have tO2 : Z2.1 own = 13 := E2.2.1
    obtain ⟨c1, c2, c3, c4, c5, c6, c7, c8, c9, c10⟩ := E2.1.hse tO2
    obtain ⟨k1', R1'⟩ := pt2.other (s2 := own + 1) E1 b2 (by omega) k1 R1
    obtain ⟨k5', R5', th5, _⟩ := put_sh R5 k5 E1 n4 (Or.inr rfl) (pt2.val hv) mk ((dep_ok R5 n40 hp2).trans edp)
    obtain ⟨w1, _, _, ⟨w4', _⟩, _⟩ := R5' n (by omega)
    have dgk : k_sum P2 (k_th U2 (own + 5) n) = y_dig S'.1 S'.2 (40 + n) := dig_ok R5' (by omega) (by omega) (Or.inr (Or.inl rfl))
    have esn : S'.2 4 n = so := by rw [mk.2.2.2.2.2.2.2.1, up_s]
    simp (decide := true) (disch := first | assumption | omega) only [↓u87_0, ↓u87_10, ↓u87_12, ↓u87_40, ↓u87_42, ↓u87_58, ↓u87_60, ↓u87_73, ↓u87_97, ↓u87_98, ↓u87_117, ↓u87_120, ↓u87_140, ↓u87_141, ↓x_nil, ↓x_om, ↓x_iload_1, ↓x_if_lt, ↓x_bipush_8, ↓x_icmp_lt, ↓x_iconst_m1, ↓x_ireturn, rt87, ↓x_aload_0r, ↓x_aload_0n, ↓x_aload_0q, ↓x_getfield, ft_12_12, ↓x_iload_2, ↓x_invokevirtual, mt_12_69, x_ps0, x_ps1, x_l40, x_l41, x_l42, x_l43, x_l44, ↓x_cv1, ↓x_astore_4r, ↓x_astore_4n, ↓x_astore_4q, x_cl_i, x_cl_r, x_cl_n, x_cl_q, x_cl_0, x_cl_l, ↓x_icmp_eq, ↓x_aload_4r, ↓x_aload_4n, ↓x_aload_4q, ↓x_ifnull_n, ↓x_ifnull_r, ↓x_ifnull_q, ft_12_73, ↓x_if_eq, ↓x_bipush_6, ↓x_icmp_ne, ↓x_iload_3, ↓x_ldc, it_12_78, ↓x_icmp_le, ft_12_35, mt_12_79, ↓x_cv0, ↓x_if_ne, ↓x_bipush_m2, ft_12_83, ↓x_iconst_1, ↓x_iadd, ↓x_iconst_5, ↓x_goto, ↓x_iconst_0, ↓x_istore_5, ft_12_86, ↓x_bipush_40, ↓x_icmp_ge, ↓x_iload_5, ↓x_bipush_m3, ↓x_istore_6, ↓x_invokestatic, mt_12_89, ↓x_cs1_1, ↓x_istore_7, ↓x_iload_7, mt_12_93, ↓x_cv3, ft_12_16, ↓x_iload_6, mt_12_97, ft_12_44, ↓x_new, ct_12_101, ↓x_dup_i, ↓x_dup_r, ↓x_dup_n, ↓x_invokespecial, mt_12_103, ↓x_ci7_2, mt_12_106, Int.reduceAdd, Nat.reduceAdd, true_and, and_true, true_or, or_true, false_or, or_false, reduceCtorEq, false_and, and_false, and_self, or_self, false_implies, true_implies, not_true_eq_false, not_false_eq_true, implies_true, Option.some.injEq, kg12, kv12_0, ki8, kg11, kv11_0, kv12_5, kiL30, kiL31, kiL32, kv11_2, kg8, kv8_1, kv12_1, ki12, kv12_7, ki7, ki4, up_s, up_n]
    refine s_place hg hA (m := r2.1) (sl := r2.2) E2 k5' (show n < n + 1 by omega) (fun h => ?_) (fun x N' Z3 P3 U3 r3 pl => ?_)
    · rw [w1] at h
      obtain ⟨zz, y1, y2, _⟩ := w4' h
      exact ⟨zz, y1, y2⟩
    rw [w1, esn, dgk] at pl
    have E3 := pl.2.1
    have tO3 : Z3.1 own = 13 := E3.2.1
    obtain ⟨d1, d2, d3, d4, d5, d6, d7, d8, d9, d10⟩ := E3.1.hse tO3
    obtain ⟨k1a, R1a⟩ := pl.sh E2 k1' R1'
    obtain ⟨k5a, R5a⟩ := pl.sh E2 k5' R5'
    have tn := (E3.2.2.1 r3.1 (Nat.le_refl _)).1
    simp (decide := true) (disch := first | assumption | omega) only [↓u87_0, ↓u87_10, ↓u87_12, ↓u87_40, ↓u87_42, ↓u87_58, ↓u87_60, ↓u87_73, ↓u87_97, ↓u87_98, ↓u87_117, ↓u87_120, ↓u87_140, ↓u87_141, ↓x_nil, ↓x_om, ↓x_iload_1, ↓x_if_lt, ↓x_bipush_8, ↓x_icmp_lt, ↓x_iconst_m1, ↓x_ireturn, rt87, ↓x_aload_0r, ↓x_aload_0n, ↓x_aload_0q, ↓x_getfield, ft_12_12, ↓x_iload_2, ↓x_invokevirtual, mt_12_69, x_ps0, x_ps1, x_l40, x_l41, x_l42, x_l43, x_l44, ↓x_cv1, ↓x_astore_4r, ↓x_astore_4n, ↓x_astore_4q, x_cl_i, x_cl_r, x_cl_n, x_cl_q, x_cl_0, x_cl_l, ↓x_icmp_eq, ↓x_aload_4r, ↓x_aload_4n, ↓x_aload_4q, ↓x_ifnull_n, ↓x_ifnull_r, ↓x_ifnull_q, ft_12_73, ↓x_if_eq, ↓x_bipush_6, ↓x_icmp_ne, ↓x_iload_3, ↓x_ldc, it_12_78, ↓x_icmp_le, ft_12_35, mt_12_79, ↓x_cv0, ↓x_if_ne, ↓x_bipush_m2, ft_12_83, ↓x_iconst_1, ↓x_iadd, ↓x_iconst_5, ↓x_goto, ↓x_iconst_0, ↓x_istore_5, ft_12_86, ↓x_bipush_40, ↓x_icmp_ge, ↓x_iload_5, ↓x_bipush_m3, ↓x_istore_6, ↓x_invokestatic, mt_12_89, ↓x_cs1_1, ↓x_istore_7, ↓x_iload_7, mt_12_93, ↓x_cv3, ft_12_16, ↓x_iload_6, mt_12_97, ft_12_44, ↓x_new, ct_12_101, ↓x_dup_i, ↓x_dup_r, ↓x_dup_n, ↓x_invokespecial, mt_12_103, ↓x_ci7_2, mt_12_106, Int.reduceAdd, Nat.reduceAdd, true_and, and_true, true_or, or_true, false_or, or_false, reduceCtorEq, false_and, and_false, and_self, or_self, false_implies, true_implies, not_true_eq_false, not_false_eq_true, implies_true, Option.some.injEq, k_alO, nf7, k_c2, kg12, kv12_0, ki8, kg11, kv11_0, kv12_5, kiL30, kiL31, kiL32, kv11_2, kg8, kv8_1, kv12_1, ki12, kv12_7, ki7, ki4, up_s, up_n]
    refine h_newRow hg tn ?_
    have w2 := E3.1.leaf (tg := 8) tn (by omega)
    have z1 : ∀ a, Z3.1 a ≠ 0 → (k_zt Z3 r3.1 8).1 a = Z3.1 a := fun a h => k_ztn (by have := E3.lt (a := a) h; omega)
    have f0 : (k_zt Z3 r3.1 8).1 own = 13 := by rw [z1 own (by rw [tO3]; decide)]; exact tO3
    have f8 : (k_zt Z3 r3.1 8).1 (own + 17) = 5 := by rw [z1 _ (by rw [d8]; decide)]; exact d8
    have fm : (k_zt Z3 r3.1 8).1 r3.1 = 8 := k_zts
    have l18 : (U.2.1 (own + 18)).length = nr := kLg.1
    obtain ⟨_, tx, pz, pz2, pu1, pul, pux1, pux2, pu3, pu4, pf1, pf2, ps, pv, pn0, pdg, le1, le2, le3, le4⟩ := pl.2
    obtain ⟨_, tx1, q1z, q1z2, q1u1, q1u2, q1u3, q1u4, q1f1, q1f2, _, _, _, _, q1s, ro1⟩ := pt1
    obtain ⟨_, tx2, q2z, q2z2, q2u1, q2u2, q2u3, q2u4, q2f1, q2f2, _, _, _, _, q2s, ro2⟩ := pt2
    obtain ⟨y1, y2, y3, y4⟩ := E3.1.spt tx
    have t18 : Z.1 (own + 18) = 32 := E.1.log a8
    have t18' : Z3.1 (own + 18) = 32 := E3.1.log d8
    have ul3 : ∀ a, a ≠ x + 1 → a ≠ x + 2 → U3.2.1 a = U.2.1 a := fun a h1 h2 => by rw [pul a h1 h2, q2u2, q1u2]
    have n18 : own + 18 ≠ x + 1 ∧ own + 18 ≠ x + 2 := ⟨fun z => by rw [← z, t18'] at y1; exact absurd y1 (by decide), fun z => by rw [← z, t18'] at y2; exact absurd y2 (by decide)⟩
    have u18 : U3.2.1 (own + 18) = U.2.1 (own + 18) := ul3 _ n18.1 n18.2
    simp (decide := true) (disch := first | assumption | omega) only [↓u87_0, ↓u87_10, ↓u87_12, ↓u87_40, ↓u87_42, ↓u87_58, ↓u87_60, ↓u87_73, ↓u87_97, ↓u87_98, ↓u87_117, ↓u87_120, ↓u87_140, ↓u87_141, ↓x_nil, ↓x_om, ↓x_iload_1, ↓x_if_lt, ↓x_bipush_8, ↓x_icmp_lt, ↓x_iconst_m1, ↓x_ireturn, rt87, ↓x_aload_0r, ↓x_aload_0n, ↓x_aload_0q, ↓x_getfield, ft_12_12, ↓x_iload_2, ↓x_invokevirtual, mt_12_69, x_ps0, x_ps1, x_l40, x_l41, x_l42, x_l43, x_l44, ↓x_cv1, ↓x_astore_4r, ↓x_astore_4n, ↓x_astore_4q, x_cl_i, x_cl_r, x_cl_n, x_cl_q, x_cl_0, x_cl_l, ↓x_icmp_eq, ↓x_aload_4r, ↓x_aload_4n, ↓x_aload_4q, ↓x_ifnull_n, ↓x_ifnull_r, ↓x_ifnull_q, ft_12_73, ↓x_if_eq, ↓x_bipush_6, ↓x_icmp_ne, ↓x_iload_3, ↓x_ldc, it_12_78, ↓x_icmp_le, ft_12_35, mt_12_79, ↓x_cv0, ↓x_if_ne, ↓x_bipush_m2, ft_12_83, ↓x_iconst_1, ↓x_iadd, ↓x_iconst_5, ↓x_goto, ↓x_iconst_0, ↓x_istore_5, ft_12_86, ↓x_bipush_40, ↓x_icmp_ge, ↓x_iload_5, ↓x_bipush_m3, ↓x_istore_6, ↓x_invokestatic, mt_12_89, ↓x_cs1_1, ↓x_istore_7, ↓x_iload_7, mt_12_93, ↓x_cv3, ft_12_16, ↓x_iload_6, mt_12_97, ft_12_44, ↓x_new, ct_12_101, ↓x_dup_i, ↓x_dup_r, ↓x_dup_n, ↓x_invokespecial, mt_12_103, ↓x_ci7_2, mt_12_106, Int.reduceAdd, Nat.reduceAdd, true_and, and_true, true_or, or_true, false_or, or_false, reduceCtorEq, false_and, and_false, and_self, or_self, false_implies, true_implies, not_true_eq_false, not_false_eq_true, implies_true, Option.some.injEq, k_alO, nf7, k_c2, kg12, kv12_0, ki8, kg11, kv11_0, kv12_5, kiL30, kiL31, kiL32, kv11_2, kg8, kv8_1, kv12_1, ki12, kv12_7, ki7, ki4, up_s, up_n]
    refine h_append hg hA w2 f8 fm (by rw [show own + 17 + 1 = own + 18 from rfl, u18]; omega) (fun C4 r4 hr4 => ?_)
    have E4 := E3.row (s' := r3.2 + 10) (fun y hy => hy) hr4
    rw [show own + 17 + 1 = own + 18 from rfl]
    obtain ⟨k1b, R1b⟩ := row_sh (C' := C4) (F := k_rwF 0 0 (nI n) so vv p 0 (-1)) (l := U3.2.1 (own + 18) ++ [r3.1]) (a := own + 18) E3 k1a R1a
    obtain ⟨k5b, R5b⟩ := row_sh (C' := C4) (F := k_rwF 0 0 (nI n) so vv p 0 (-1)) (l := U3.2.1 (own + 18) ++ [r3.1]) (a := own + 18) E3 k5a R5a
    have r03 : r.1 ≤ r1.1 ∧ r1.1 ≤ r2.1 ∧ r2.1 ≤ r3.1 := ⟨ro1.1, ro2.1, le1⟩
    have zt : ∀ a, Z.1 a ≠ 0 → Z1.1 a = Z.1 a ∧ Z2.1 a = Z.1 a ∧ Z3.1 a = Z.1 a := fun a h => by
      have e1 := q1z a h
      have e2 := (q2z a (by rw [e1]; exact h)).trans e1
      exact ⟨e1, e2, (pz a (by rw [e2]; exact h)).trans e2⟩
    have spO' : ∀ o, o < n → k_sp U3 own o = k_sp U own o ∧ k_sp U own o ≠ x ∧ Z3.1 (k_sp U own o) = 10 := fun o ho => by
      have t13 : Z3.1 (own + 13) = 21 := d4
      have e1 : U3.2.2 (own + 13) o = U.2.2 (own + 13) o := by rw [pu3, up_n (by omega), q2u4 _ (by omega), q1u4 _ (by omega)]
      have e2 := kLk.1 o ho
      have tt : Z3.1 (k_sp U own o) = 10 := E3.1.xsp d4 (e1.trans e2)
      refine ⟨by unfold k_sp; rw [e1], fun z => ?_, tt⟩
      have g1 : U3.2.2 (own + 13) o = some x := by rw [e1, ← z]; exact e2
      have g2 : U3.2.2 (own + 13) n = some x := by rw [pu3, up_s]
      have := (E3.2.2.2.1 _ o _ n _ (Or.inr t13) (Or.inr t13) g1 g2).2
      omega
    have spN' : k_sp U3 own n = x := by unfold k_sp; rw [pu3, up_s]; rfl
    have xl : x < r3.1 := E3.lt (by rw [tx]; decide)
    have P3f : ∀ f a, a < r.1 → a ≠ x → a ≠ x1 → a ≠ x2 → f ≠ 161 ∨ (a ≠ own + 1 ∧ a ≠ own + 5) → P3.1 f a = P.1 f a := fun f a h h1 h2 h3 h4 => by
      rw [pf1 f a (by omega) h1, q2f1 f a (by omega) h3 (by rcases h4 with h | h; exact Or.inl h; exact Or.inr h.2), q1f1 f a h h2 (by rcases h4 with h | h; exact Or.inl h; exact Or.inr h.1)]
    have P3a : ∀ a, a < r.1 → a ≠ x + 3 → a ≠ x + 4 → P3.2 a = P.2 a := fun a h h1 h2 => by
      rw [pf2 a (by omega) h1 h2, q2f2 a (by omega), q1f2 a h]
    have hK' : K_all N' own (n + 1) b l nl nw (nr + 1) ne ch 0 (k_zc (k_zt Z3 r3.1 8) C4) (k_set1 P3 r3.1 (k_rwF 0 0 (nI n) so vv p 0 (-1))) (k_wl U3 (own + 18) (U3.2.1 (own + 18) ++ [r3.1])) r4 S' := by
      refine K_make (x := r3.1) hI hK0 l0 n4 mk E4 (fun f a h0 h12 h10 h9 => ?_) (fun a ha => ?_) ⟨k1b, R1b⟩ ⟨k5b, R5b⟩ ?_ (fun a ha => ?_) ?_ (by omega) ⟨?_, ?_⟩ (fun o ho => ?_) (fun o ho => ?_) ?_
      · have := E.lt h0
        rw [k_s1n (by omega)]
        obtain ⟨e1, e2, e3⟩ := zt a h0
        exact P3f f a this (fun z => by rw [z, tx] at e3; rw [z] at h10; exact h10 e3.symm) (fun z => by rw [z, tx1] at e1; rw [z] at h12; exact h12 e1.symm) (fun z => by rw [z, tx2] at e2; rw [z] at h12; exact h12 e2.symm) (Or.inr ⟨fun z => by rw [z] at h9; exact h9 a1, fun z => by rw [z] at h9; exact h9 a2⟩)
      · have hh : Z.1 a ≠ 0 ∧ (Z3.1 a = 116 → a = own + 4) := by
          rcases ha with h | h | h
          · exact ⟨by rw [h]; decide, fun z => by rw [(zt a (by rw [h]; decide)).2.2, h] at z; exact absurd z (by decide)⟩
          · exact ⟨by rw [h]; decide, fun z => by rw [(zt a (by rw [h]; decide)).2.2, h] at z; exact absurd z (by decide)⟩
          · refine ⟨?_, fun _ => h⟩
            rw [h, show own + 4 = own + 1 + 3 from rfl, (E.1.shf a1).2.2]; decide
        show P3.2 a = P.2 a
        refine P3a a (E.lt hh.1) (fun z => ?_) (fun z => ?_)
        · have := hh.2 (by rw [z]; exact y3)
          have : x = own + 1 := by omega
          rw [this, d1] at tx
          exact absurd tx (by decide)
        · have := hh.2 (by rw [z]; exact y4)
          have : x = own := by omega
          rw [this, tO3] at tx
          exact absurd tx (by decide)
      · show U3.1 = U.1
        rw [pu1, q2u1, q1u1]
      · have e3 := (zt a (by rw [ha]; decide)).2.2
        rw [k_ln (fun z => by rw [z, t18] at ha; exact absurd ha (by decide))]
        exact ul3 a (fun z => by rw [z, y1, ← z, ha] at e3; exact absurd e3 (by decide)) (fun z => by rw [z, y2, ← z, ha] at e3; exact absurd e3 (by decide))
      · rw [k_ls, u18]
      · obtain ⟨v1, v2, v3, v4, v5, v6, v7, v8⟩ := rwn
        unfold lg_row
        rw [k_s1s, k_s1s, k_s1s, k_s1s, k_s1s, k_s1s, k_s1s, k_s1s, v1, v2, v3, v4, v5, v6, v7, v8]
        exact ⟨rfl, rfl, rfl, rfl, rfl, rfl, rfl, rfl⟩
      · rw [k_s1s]; exact Or.inl rfl
      · show U3.2.2 (own + 13) o = some (k_sp U3 own o)
        by_cases co : o = n
        · rw [co, spN', pu3, up_s]
        · rw [(spO' o (by omega)).1, pu3, up_n co, q2u4 _ (by omega), q1u4 _ (by omega)]
          exact kLk.1 o (by omega)
      · obtain ⟨s1, s2, s3⟩ := spO' o ho
        obtain ⟨g1, g2, g3, g4⟩ := E3.1.spt s3
        have ts := k_sp_t E.1 tO kLk.1 ho
        obtain ⟨h1, h2, h3, h4⟩ := E.1.spt ts
        have m0 := E.lt (a := k_sp U own o) (by rw [ts]; decide)
        have m3 := E.lt (a := k_sp U own o + 3) (by rw [h3]; decide)
        have m4 := E.lt (a := k_sp U own o + 4) (by rw [h4]; decide)
        have x1n : k_sp U own o ≠ x + 1 := fun z => by rw [z, y1] at s3; exact absurd s3 (by decide)
        have x2n : k_sp U own o + 1 ≠ x := fun z => by rw [z, tx] at g1; exact absurd g1 (by decide)
        have w1 : U3.2.1 (k_sp U own o + 1) = U.2.1 (k_sp U own o + 1) := ul3 _ (by omega) (by omega)
        have w2 : U3.2.1 (k_sp U own o + 2) = U.2.1 (k_sp U own o + 2) := ul3 _ (by omega) (by omega)
        have nx1 : k_sp U own o ≠ x1 := fun z => by have := (zt _ (by rw [ts]; decide : Z.1 (k_sp U own o) ≠ 0)).1; rw [z, tx1, ← z, ts] at this; exact absurd this (by decide)
        have nx2 : k_sp U own o ≠ x2 := fun z => by have := (zt _ (by rw [ts]; decide : Z.1 (k_sp U own o) ≠ 0)).2.1; rw [z, tx2, ← z, ts] at this; exact absurd this (by decide)
        refine ⟨s1, ?_, ?_, ?_, ?_, P3a _ m3 (by omega) (by omega), P3a _ m4 (by omega) (by omega)⟩
        · rw [k_ln (fun z => by rw [z, t18'] at g1; exact absurd g1 (by decide))]; exact w1
        · rw [k_ln (fun z => by rw [z, t18'] at g2; exact absurd g2 (by decide))]; exact w2
        · rw [k_s1n (by omega)]; exact P3f _ _ m0 s2 nx1 nx2 (Or.inl (by decide))
        · rw [k_s1n (by omega)]; exact P3f _ _ m0 s2 nx1 nx2 (Or.inl (by decide))
      · rw [show k_sp (k_wl U3 (own + 18) (U3.2.1 (own + 18) ++ [r3.1])) own n = x from spN']
        refine ⟨?_, ?_, ?_, ?_, pn0, pdg⟩
        · rw [k_ln (fun z => n18.1 z.symm)]; exact pux1
        · rw [k_ln (fun z => n18.2 z.symm)]; exact pux2
        · rw [k_s1n (by omega)]; exact ps
        · rw [k_s1n (by omega)]; exact pv
    simp (decide := true) (disch := first | assumption | omega) only [↓u87_0, ↓u87_10, ↓u87_12, ↓u87_40, ↓u87_42, ↓u87_58, ↓u87_60, ↓u87_73, ↓u87_97, ↓u87_98, ↓u87_117, ↓u87_120, ↓u87_140, ↓u87_141, ↓x_nil, ↓x_om, ↓x_iload_1, ↓x_if_lt, ↓x_bipush_8, ↓x_icmp_lt, ↓x_iconst_m1, ↓x_ireturn, rt87, ↓x_aload_0r, ↓x_aload_0n, ↓x_aload_0q, ↓x_getfield, ft_12_12, ↓x_iload_2, ↓x_invokevirtual, mt_12_69, x_ps0, x_ps1, x_l40, x_l41, x_l42, x_l43, x_l44, ↓x_cv1, ↓x_astore_4r, ↓x_astore_4n, ↓x_astore_4q, x_cl_i, x_cl_r, x_cl_n, x_cl_q, x_cl_0, x_cl_l, ↓x_icmp_eq, ↓x_aload_4r, ↓x_aload_4n, ↓x_aload_4q, ↓x_ifnull_n, ↓x_ifnull_r, ↓x_ifnull_q, ft_12_73, ↓x_if_eq, ↓x_bipush_6, ↓x_icmp_ne, ↓x_iload_3, ↓x_ldc, it_12_78, ↓x_icmp_le, ft_12_35, mt_12_79, ↓x_cv0, ↓x_if_ne, ↓x_bipush_m2, ft_12_83, ↓x_iconst_1, ↓x_iadd, ↓x_iconst_5, ↓x_goto, ↓x_iconst_0, ↓x_istore_5, ft_12_86, ↓x_bipush_40, ↓x_icmp_ge, ↓x_iload_5, ↓x_bipush_m3, ↓x_istore_6, ↓x_invokestatic, mt_12_89, ↓x_cs1_1, ↓x_istore_7, ↓x_iload_7, mt_12_93, ↓x_cv3, ft_12_16, ↓x_iload_6, mt_12_97, ft_12_44, ↓x_new, ct_12_101, ↓x_dup_i, ↓x_dup_r, ↓x_dup_n, ↓x_invokespecial, mt_12_103, ↓x_ci7_2, mt_12_106, Int.reduceAdd, Nat.reduceAdd, true_and, and_true, true_or, or_true, false_or, or_false, reduceCtorEq, false_and, and_false, and_self, or_self, false_implies, true_implies, not_true_eq_false, not_false_eq_true, implies_true, Option.some.injEq, kg12, kv12_0, ki8, kg11, kv11_0, kv12_5, kiL30, kiL31, kiL32, kv11_2, kg8, kv8_1, kv12_1, ki12, kv12_7, ki7, ki4, up_s, up_n]
    refine fin S' (nI n) ey _ _ _ _ ⟨N', n + 1, b, l, nl, nw, nr + 1, na, ne, ch, T + 1, hI', hK', ?_⟩
    have la : S'.1 66 = S.1 66 := mk.2.1 _ (by decide)
    have hR' := hR.mono (N' := N') pl.1
    have su1 := su_mono (C := Z.2.1) pl.1
    show K_ro N' (c + 1) (T + 1) r0 r4 C4 S'
    obtain ⟨x1a, x1b, x1c, x1d, _⟩ := ro1
    obtain ⟨x2a, x2b, x2c, x2d, _⟩ := ro2
    obtain ⟨x4a, x4b, x4c, x4d, _⟩ := hr4
    dsimp only at x4a x4b x4c x4d
    rw [q1z2] at x1c x1d
    rw [q2z2, q1z2] at x2c x2d
    have e3 : (k_zt Z3 r3.1 8).2.1 = Z.2.1 := by
      show Z3.2.1 = _
      rw [pz2, q2z2, q1z2]
    rw [e3] at x4c x4d
    dsimp only at x1c x1d x2c x2d le3 le4
    obtain ⟨y1', y2'⟩ := hR'
    refine ⟨?_, ?_⟩
    · rw [la]; omega
    · rw [la]; omega
  have last : ∀ z dd w4 w5, z < 8 → so = nI z → dd ≤ 5 → (z = 0 → dd ≤ 4) → ((p = -1 ∧ dd = 0) ∨ ∃ q, q < n ∧ p = nI q ∧ S.2 4 q = 0 ∧ S.2 7 q = nI dd) → l = 0 → n < 40 → y_make so p v n (S.1, S.2) = (nI n, y_md so p v (nI (dd + 1)) n S) → e_Sm g 87 12 cd87 Ψ 120 [some (.ref own), some (.int so), some (.int p), some (.int v), w4, w5, none, none] [] (K_H Z P U (B, r)) := by
    intro z dd w4 w5 hz ez hd h0 hp l0 n4 ey
    have := core z dd w4 (e_cl w5) hz ez hd h0 hp l0 n4 ey
    rw [u87_120]
    simp (decide := true) (disch := first | assumption | omega) only [↓u87_0, ↓u87_10, ↓u87_12, ↓u87_40, ↓u87_42, ↓u87_58, ↓u87_60, ↓u87_73, ↓u87_97, ↓u87_98, ↓u87_117, ↓u87_120, ↓u87_140, ↓x_nil, ↓x_om, ↓x_iload_1, ↓x_if_lt, ↓x_bipush_8, ↓x_icmp_lt, ↓x_iconst_m1, ↓x_ireturn, rt87, ↓x_aload_0r, ↓x_aload_0n, ↓x_aload_0q, ↓x_getfield, ft_12_12, ↓x_iload_2, ↓x_invokevirtual, mt_12_69, x_ps0, x_ps1, x_l40, x_l41, x_l42, x_l43, x_l44, ↓x_cv1, ↓x_astore_4r, ↓x_astore_4n, ↓x_astore_4q, x_cl_i, x_cl_r, x_cl_n, x_cl_q, x_cl_0, x_cl_l, ↓x_icmp_eq, ↓x_aload_4r, ↓x_aload_4n, ↓x_aload_4q, ↓x_ifnull_n, ↓x_ifnull_r, ↓x_ifnull_q, ft_12_73, ↓x_if_eq, ↓x_bipush_6, ↓x_icmp_ne, ↓x_iload_3, ↓x_ldc, it_12_78, ↓x_icmp_le, ft_12_35, mt_12_79, ↓x_cv0, ↓x_if_ne, ↓x_bipush_m2, ft_12_83, ↓x_iconst_1, ↓x_iadd, ↓x_iconst_5, ↓x_goto, ↓x_iconst_0, ↓x_istore_5, ft_12_86, ↓x_bipush_40, ↓x_icmp_ge, ↓x_iload_5, ↓x_bipush_m3, ↓x_istore_6, ↓x_invokestatic, mt_12_89, ↓x_cs1_1, ↓x_istore_7, ↓x_iload_7, mt_12_93, ↓x_cv3, ft_12_16, ↓x_iload_6, mt_12_97, ft_12_44, ↓x_new, ct_12_101, ↓x_dup_i, ↓x_dup_r, ↓x_dup_n, ↓x_invokespecial, mt_12_103, ↓x_ci7_2, mt_12_106, Int.reduceAdd, Nat.reduceAdd, true_and, and_true, true_or, or_true, false_or, or_false, reduceCtorEq, false_and, and_false, and_self, or_self, false_implies, true_implies, not_true_eq_false, not_false_eq_true, implies_true, Option.some.injEq, sz, kg12, kv12_0, ki8, kg11, kv11_0, kv12_5, kiL30, kiL31, kiL32, kv11_2, kg8, kv8_1, kv12_1, ki12, kv12_7, ki7, ki4, up_s, up_n]
    refine h_hasValue hg ?_
    simp (decide := true) (disch := first | assumption | omega) only [↓u87_0, ↓u87_10, ↓u87_12, ↓u87_40, ↓u87_42, ↓u87_58, ↓u87_60, ↓u87_73, ↓u87_97, ↓u87_98, ↓u87_117, ↓u87_120, ↓u87_140, ↓x_nil, ↓x_om, ↓x_iload_1, ↓x_if_lt, ↓x_bipush_8, ↓x_icmp_lt, ↓x_iconst_m1, ↓x_ireturn, rt87, ↓x_aload_0r, ↓x_aload_0n, ↓x_aload_0q, ↓x_getfield, ft_12_12, ↓x_iload_2, ↓x_invokevirtual, mt_12_69, x_ps0, x_ps1, x_l40, x_l41, x_l42, x_l43, x_l44, ↓x_cv1, ↓x_astore_4r, ↓x_astore_4n, ↓x_astore_4q, x_cl_i, x_cl_r, x_cl_n, x_cl_q, x_cl_0, x_cl_l, ↓x_icmp_eq, ↓x_aload_4r, ↓x_aload_4n, ↓x_aload_4q, ↓x_ifnull_n, ↓x_ifnull_r, ↓x_ifnull_q, ft_12_73, ↓x_if_eq, ↓x_bipush_6, ↓x_icmp_ne, ↓x_iload_3, ↓x_ldc, it_12_78, ↓x_icmp_le, ft_12_35, mt_12_79, ↓x_cv0, ↓x_if_ne, ↓x_bipush_m2, ft_12_83, ↓x_iconst_1, ↓x_iadd, ↓x_iconst_5, ↓x_goto, ↓x_iconst_0, ↓x_istore_5, ft_12_86, ↓x_bipush_40, ↓x_icmp_ge, ↓x_iload_5, ↓x_bipush_m3, ↓x_istore_6, ↓x_invokestatic, mt_12_89, ↓x_cs1_1, ↓x_istore_7, ↓x_iload_7, mt_12_93, ↓x_cv3, ft_12_16, ↓x_iload_6, mt_12_97, ft_12_44, ↓x_new, ct_12_101, ↓x_dup_i, ↓x_dup_r, ↓x_dup_n, ↓x_invokespecial, mt_12_103, ↓x_ci7_2, mt_12_106, Int.reduceAdd, Nat.reduceAdd, true_and, and_true, true_or, or_true, false_or, or_false, reduceCtorEq, false_and, and_false, and_self, or_self, false_implies, true_implies, not_true_eq_false, not_false_eq_true, implies_true, Option.some.injEq, sz, kg12, kv12_0, ki8, kg11, kv11_0, kv12_5, kiL30, kiL31, kiL32, kv11_2, kg8, kv8_1, kv12_1, ki12, kv12_7, ki7, ki4, up_s, up_n]
    refine c_bool (fun h => ?_) (fun h => ?_)
    · rw [if_pos h] at this; exact this
    · rw [if_neg (by rw [h]; decide)] at this; exact this
  have s60 : ∀ z dd, z < 8 → so = nI z → dd ≤ 5 → ((p = -1 ∧ dd = 0) ∨ ∃ q, q < n ∧ p = nI q ∧ S.2 4 q = 0 ∧ S.2 7 q = nI dd) → (so = 6 → y_isIn v 0 1000000000 = true) → e_Sm g 87 12 cd87 Ψ 60 [some (.ref own), some (.int so), some (.int p), some (.int v), some (va_rf (k_tO U (own + 1) n p)), none, none, none] [] (K_H Z P U (B, r)) := by
    intro z dd hz ez hd hp h6
    have i7 : y_isIn so 0 7 = true := by
      rw [ez]
      exact in_tr (nI_pos' (by omega)) (by rw [show (7 : Int32) = nI 7 from rfl]; exact nI_le (by omega) (by omega))
    have s0 : so = 0 ↔ z = 0 := by
      rw [ez, show (0 : Int32) = nI 0 from rfl, i_eq (by omega) (by omega)]
    have five : 5 < nI (dd + 1) ↔ dd = 5 := by
      rw [show (5 : Int32) = nI 5 from rfl, i_lt (by omega) (by omega)]
      omega
    have pc : p = -1 ∨ (y_isIn p 0 (nI n - 1) = true ∧ S.2 4 p.toNatClampNeg = 0) := by
      rcases hp with ⟨h, _⟩ | ⟨q, q1, q2, q3, q4⟩
      · exact Or.inl h
      · refine Or.inr ⟨?_, by rw [q2, i_cl (by omega)]; exact q3⟩
        rcases tO_ok (U := U) (s := own + 1) (o := p) n40 with ⟨e1, e2⟩ | ⟨j, _, _, _, e2⟩
        · rw [q2, k_tO_s q1 n40] at e1; cases e1
        · exact e2
    have np : ∀ q, q < n → ¬ nI q = -1 := fun q hq z => by
      have h0 : (0 : Int32) ≤ nI q := nI_pos' (by omega)
      rw [z] at h0
      exact absurd h0 (by decide)
    have edp : (if p = -1 then (1 : Int32) else S.2 7 p.toNatClampNeg + 1) = nI (dd + 1) := by
      rcases hp with ⟨h, h'⟩ | ⟨q, q1, q2, _, q3⟩
      · rw [if_pos h, h']; rfl
      · rw [if_neg (by rw [q2]; exact np q q1), q2, i_cl (by omega), q3, i_a1]
    have ey : y_make so p v n (S.1, S.2) = (if 0 < S.1 45 then (-2, S) else (if n = 40 ∨ (so = 0 ∧ 5 < nI (dd + 1)) then (-3, S) else (nI n, y_md so p v (nI (dd + 1)) n S))) := by
      unfold y_make; dsimp only; rw [if_pos ⟨i7, pc, h6⟩, edp]
    rw [u87_60]
    simp (decide := true) (disch := first | assumption | omega) only [↓u87_0, ↓u87_10, ↓u87_12, ↓u87_40, ↓u87_42, ↓u87_58, ↓u87_60, ↓u87_73, ↓u87_97, ↓u87_117, ↓u87_120, ↓u87_140, ↓u87_141, ↓x_nil, ↓x_om, ↓x_iload_1, ↓x_if_lt, ↓x_bipush_8, ↓x_icmp_lt, ↓x_iconst_m1, ↓x_ireturn, rt87, ↓x_aload_0r, ↓x_aload_0n, ↓x_aload_0q, ↓x_getfield, ft_12_12, ↓x_iload_2, ↓x_invokevirtual, mt_12_69, x_ps0, x_ps1, x_l40, x_l41, x_l42, x_l43, x_l44, ↓x_cv1, ↓x_astore_4r, ↓x_astore_4n, ↓x_astore_4q, x_cl_i, x_cl_r, x_cl_n, x_cl_q, x_cl_0, x_cl_l, ↓x_icmp_eq, ↓x_aload_4r, ↓x_aload_4n, ↓x_aload_4q, ↓x_ifnull_n, ↓x_ifnull_r, ↓x_ifnull_q, ft_12_73, ↓x_if_eq, ↓x_bipush_6, ↓x_icmp_ne, ↓x_iload_3, ↓x_ldc, it_12_78, ↓x_icmp_le, ft_12_35, mt_12_79, ↓x_cv0, ↓x_if_ne, ↓x_bipush_m2, ft_12_83, ↓x_iconst_1, ↓x_iadd, ↓x_iconst_5, ↓x_goto, ↓x_iconst_0, ↓x_istore_5, ft_12_86, ↓x_bipush_40, ↓x_icmp_ge, ↓x_iload_5, ↓x_bipush_m3, ↓x_istore_6, ↓x_invokestatic, mt_12_89, ↓x_cs1_1, ↓x_istore_7, ↓x_iload_7, mt_12_93, ↓x_cv3, ft_12_16, ↓x_iload_6, mt_12_97, ft_12_44, ↓x_new, ct_12_101, ↓x_dup_i, ↓x_dup_r, ↓x_dup_n, ↓x_invokespecial, mt_12_103, ↓x_ci7_2, mt_12_106, Int.reduceAdd, Nat.reduceAdd, true_and, and_true, true_or, or_true, false_or, or_false, reduceCtorEq, false_and, and_false, and_self, or_self, false_implies, true_implies, not_true_eq_false, not_false_eq_true, implies_true, Option.some.injEq, kg12, kv12_0, ki8, kg11, kv11_0, kv12_5, kiL30, kiL31, kiL32, kv11_2, kg8, kv8_1, kv12_1, ki12, kv12_7, ki7, ki4, up_s, up_n]
    refine l_empty hA (k_tL30 a6) (E.1.cap _).1 ?_
    rw [len15]
    by_cases l0 : l = 0
    rotate_left
    · rw [if_neg l0]
      simp (decide := true) (disch := first | assumption | omega) only [↓u87_0, ↓u87_10, ↓u87_12, ↓u87_40, ↓u87_42, ↓u87_58, ↓u87_60, ↓u87_73, ↓u87_97, ↓u87_117, ↓u87_120, ↓u87_140, ↓u87_141, ↓x_nil, ↓x_om, ↓x_iload_1, ↓x_if_lt, ↓x_bipush_8, ↓x_icmp_lt, ↓x_iconst_m1, ↓x_ireturn, rt87, ↓x_aload_0r, ↓x_aload_0n, ↓x_aload_0q, ↓x_getfield, ft_12_12, ↓x_iload_2, ↓x_invokevirtual, mt_12_69, x_ps0, x_ps1, x_l40, x_l41, x_l42, x_l43, x_l44, ↓x_cv1, ↓x_astore_4r, ↓x_astore_4n, ↓x_astore_4q, x_cl_i, x_cl_r, x_cl_n, x_cl_q, x_cl_0, x_cl_l, ↓x_icmp_eq, ↓x_aload_4r, ↓x_aload_4n, ↓x_aload_4q, ↓x_ifnull_n, ↓x_ifnull_r, ↓x_ifnull_q, ft_12_73, ↓x_if_eq, ↓x_bipush_6, ↓x_icmp_ne, ↓x_iload_3, ↓x_ldc, it_12_78, ↓x_icmp_le, ft_12_35, mt_12_79, ↓x_cv0, ↓x_if_ne, ↓x_bipush_m2, ft_12_83, ↓x_iconst_1, ↓x_iadd, ↓x_iconst_5, ↓x_goto, ↓x_iconst_0, ↓x_istore_5, ft_12_86, ↓x_bipush_40, ↓x_icmp_ge, ↓x_iload_5, ↓x_bipush_m3, ↓x_istore_6, ↓x_invokestatic, mt_12_89, ↓x_cs1_1, ↓x_istore_7, ↓x_iload_7, mt_12_93, ↓x_cv3, ft_12_16, ↓x_iload_6, mt_12_97, ft_12_44, ↓x_new, ct_12_101, ↓x_dup_i, ↓x_dup_r, ↓x_dup_n, ↓x_invokespecial, mt_12_103, ↓x_ci7_2, mt_12_106, Int.reduceAdd, Nat.reduceAdd, true_and, and_true, true_or, or_true, false_or, or_false, reduceCtorEq, false_and, and_false, and_self, or_self, false_implies, true_implies, not_true_eq_false, not_false_eq_true, implies_true, Option.some.injEq, kg12, kv12_0, ki8, kg11, kv11_0, kv12_5, kiL30, kiL31, kiL32, kv11_2, kg8, kv8_1, kv12_1, ki12, kv12_7, ki7, ki4, up_s, up_n]
      exact fin S (-2) (by rw [ey, if_pos (by rw [ell, show (0 : Int32) = nI 0 from rfl, i_lt (by omega) (by omega)]; omega)]) Z P U r (hV0.next hc)
    rw [if_pos l0]
    have c0 : ¬ 0 < S.1 45 := by rw [ell, l0]; decide
    rw [if_neg c0] at ey
    have s98 : ∀ x : Int32, (x = 0 ∨ x = 1) → (x = 1 ↔ z = 0 ∧ dd = 5) → e_Sm g 87 12 cd87 Ψ 98 [some (.ref own), some (.int so), some (.int p), some (.int v), some (va_rf (k_tO U (own + 1) n p)), none, none, none] [.int x] (K_H Z P U (B, r)) := by
      intro x hx hi
      rw [u87_98]
      simp (decide := true) (disch := first | assumption | omega) only [↓u87_0, ↓u87_10, ↓u87_12, ↓u87_40, ↓u87_42, ↓u87_58, ↓u87_60, ↓u87_73, ↓u87_97, ↓u87_98, ↓u87_117, ↓u87_140, ↓u87_141, ↓x_nil, ↓x_om, ↓x_iload_1, ↓x_if_lt, ↓x_bipush_8, ↓x_icmp_lt, ↓x_iconst_m1, ↓x_ireturn, rt87, ↓x_aload_0r, ↓x_aload_0n, ↓x_aload_0q, ↓x_getfield, ft_12_12, ↓x_iload_2, ↓x_invokevirtual, mt_12_69, x_ps0, x_ps1, x_l40, x_l41, x_l42, x_l43, x_l44, ↓x_cv1, ↓x_astore_4r, ↓x_astore_4n, ↓x_astore_4q, x_cl_i, x_cl_r, x_cl_n, x_cl_q, x_cl_0, x_cl_l, ↓x_icmp_eq, ↓x_aload_4r, ↓x_aload_4n, ↓x_aload_4q, ↓x_ifnull_n, ↓x_ifnull_r, ↓x_ifnull_q, ft_12_73, ↓x_if_eq, ↓x_bipush_6, ↓x_icmp_ne, ↓x_iload_3, ↓x_ldc, it_12_78, ↓x_icmp_le, ft_12_35, mt_12_79, ↓x_cv0, ↓x_if_ne, ↓x_bipush_m2, ft_12_83, ↓x_iconst_1, ↓x_iadd, ↓x_iconst_5, ↓x_goto, ↓x_iconst_0, ↓x_istore_5, ft_12_86, ↓x_bipush_40, ↓x_icmp_ge, ↓x_iload_5, ↓x_bipush_m3, ↓x_istore_6, ↓x_invokestatic, mt_12_89, ↓x_cs1_1, ↓x_istore_7, ↓x_iload_7, mt_12_93, ↓x_cv3, ft_12_16, ↓x_iload_6, mt_12_97, ft_12_44, ↓x_new, ct_12_101, ↓x_dup_i, ↓x_dup_r, ↓x_dup_n, ↓x_invokespecial, mt_12_103, ↓x_ci7_2, mt_12_106, Int.reduceAdd, Nat.reduceAdd, true_and, and_true, true_or, or_true, false_or, or_false, reduceCtorEq, false_and, and_false, and_self, or_self, false_implies, true_implies, not_true_eq_false, not_false_eq_true, implies_true, Option.some.injEq, i_add, i_a1, i_m8, i_m5, i_m401, i_40, i_80, i_r40, i_s1, i_am1, i_sub, i_lt, i_le, i_eq, i_m1, il_le_0, il_ge_0, il_lt_0, il_gt_0, il_eq_0, il_le_1, il_ge_1, il_lt_1, il_gt_1, il_eq_1, il_le_2, il_ge_2, il_lt_2, il_gt_2, il_eq_2, il_le_3, il_ge_3, il_lt_3, il_gt_3, il_eq_3, il_le_4, il_ge_4, il_lt_4, il_gt_4, il_eq_4, il_le_5, il_ge_5, il_lt_5, il_gt_5, il_eq_5, il_le_6, il_ge_6, il_lt_6, il_gt_6, il_eq_6, il_le_7, il_ge_7, il_lt_7, il_gt_7, il_eq_7, il_le_8, il_ge_8, il_lt_8, il_gt_8, il_eq_8, il_le_12, il_ge_12, il_lt_12, il_gt_12, il_eq_12, il_le_16, il_ge_16, il_lt_16, il_gt_16, il_eq_16, il_le_20, il_ge_20, il_lt_20, il_gt_20, il_eq_20, il_le_21, il_ge_21, il_lt_21, il_gt_21, il_eq_21, il_le_40, il_ge_40, il_lt_40, il_gt_40, il_eq_40, il_le_100, il_ge_100, il_lt_100, il_gt_100, il_eq_100, il_le_120, il_ge_120, il_lt_120, il_gt_120, il_eq_120, il_le_200, il_ge_200, il_lt_200, il_gt_200, il_eq_200, il_le_400, il_ge_400, il_lt_400, il_gt_400, il_eq_400, il_le_700, il_ge_700, il_lt_700, il_gt_700, il_eq_700, sz, kg12, kv12_0, ki8, kg11, kv11_0, kv12_5, kiL30, kiL31, kiL32, kv11_2, kg8, kv8_1, kv12_1, ki12, kv12_7, ki7, ki4, up_s, up_n]
      refine ⟨fun c1 => ?_, fun c1 => ⟨fun c2 => ?_, fun c2 => ?_⟩⟩
      · exact fin S (-3) (by rw [ey, if_pos (Or.inl (by omega))]) Z P U r (hV0.next hc)
      · have n5 : ¬ (z = 0 ∧ dd = 5) := fun y => by rw [hi.mpr y] at c2; exact absurd c2 (by decide)
        have nn : ¬ (n = 40 ∨ (so = 0 ∧ 5 < nI (dd + 1))) := fun y => by
          rcases y with y | ⟨y1, y2⟩
          · omega
          · exact n5 ⟨s0.mp y1, five.mp y2⟩
        rw [if_neg nn] at ey
        exact last z dd _ _ hz ez hd (fun y => by omega) hp l0 (by omega) ey
      · have y := hi.mp (hx.resolve_left c2)
        exact fin S (-3) (by rw [ey, if_pos (Or.inr ⟨s0.mpr y.1, five.mpr y.2⟩)]) Z P U r (hV0.next hc)
    rcases hp with ⟨hp1, hp2⟩ | ⟨q, q1, q2, q3, q4⟩
    · have kt : k_tO U (own + 1) n p = none := by rw [hp1]; exact k_tO_m1
      have z0 := s98 0 (Or.inl rfl) ⟨fun y => absurd y (by decide), fun y => by omega⟩
      simp (decide := true) (disch := first | assumption | omega) only [↓u87_0, ↓u87_10, ↓u87_12, ↓u87_40, ↓u87_42, ↓u87_58, ↓u87_60, ↓u87_73, ↓u87_97, ↓u87_117, ↓u87_120, ↓u87_140, ↓u87_141, ↓x_nil, ↓x_om, ↓x_iload_1, ↓x_if_lt, ↓x_bipush_8, ↓x_icmp_lt, ↓x_iconst_m1, ↓x_ireturn, rt87, ↓x_aload_0r, ↓x_aload_0n, ↓x_aload_0q, ↓x_getfield, ft_12_12, ↓x_iload_2, ↓x_invokevirtual, mt_12_69, x_ps0, x_ps1, x_l40, x_l41, x_l42, x_l43, x_l44, ↓x_cv1, ↓x_astore_4r, ↓x_astore_4n, ↓x_astore_4q, x_cl_i, x_cl_r, x_cl_n, x_cl_q, x_cl_0, x_cl_l, ↓x_icmp_eq, ↓x_aload_4r, ↓x_aload_4n, ↓x_aload_4q, ↓x_ifnull_n, ↓x_ifnull_r, ↓x_ifnull_q, ft_12_73, ↓x_if_eq, ↓x_bipush_6, ↓x_icmp_ne, ↓x_iload_3, ↓x_ldc, it_12_78, ↓x_icmp_le, ft_12_35, mt_12_79, ↓x_cv0, ↓x_if_ne, ↓x_bipush_m2, ft_12_83, ↓x_iconst_1, ↓x_iadd, ↓x_iconst_5, ↓x_goto, ↓x_iconst_0, ↓x_istore_5, ft_12_86, ↓x_bipush_40, ↓x_icmp_ge, ↓x_iload_5, ↓x_bipush_m3, ↓x_istore_6, ↓x_invokestatic, mt_12_89, ↓x_cs1_1, ↓x_istore_7, ↓x_iload_7, mt_12_93, ↓x_cv3, ft_12_16, ↓x_iload_6, mt_12_97, ft_12_44, ↓x_new, ct_12_101, ↓x_dup_i, ↓x_dup_r, ↓x_dup_n, ↓x_invokespecial, mt_12_103, ↓x_ci7_2, mt_12_106, Int.reduceAdd, Nat.reduceAdd, true_and, and_true, true_or, or_true, false_or, or_false, reduceCtorEq, false_and, and_false, and_self, or_self, false_implies, true_implies, not_true_eq_false, not_false_eq_true, implies_true, Option.some.injEq, kg12, kv12_0, ki8, kg11, kv11_0, kv12_5, kiL30, kiL31, kiL32, kv11_2, kg8, kv8_1, kv12_1, ki12, kv12_7, ki7, ki4, up_s, up_n]
      exact ⟨fun _ => ⟨fun _ => z0, fun h => absurd kt h⟩, fun _ => z0⟩
    · have kt : k_tO U (own + 1) n p = some (k_th U (own + 1) q) := by rw [q2]; exact k_tO_s q1 n40
      have tt := (k_th_t E.1 hs1 q1).1
      have ed : P.1 222 (k_th U (own + 1) q) + 1 = nI dd := (hS q q1).2.2.1.trans q4
      rw [kt, k_rfs] at s98 ⊢
      simp (decide := true) (disch := first | assumption | omega) only [↓u87_0, ↓u87_10, ↓u87_12, ↓u87_40, ↓u87_42, ↓u87_58, ↓u87_60, ↓u87_73, ↓u87_97, ↓u87_117, ↓u87_120, ↓u87_140, ↓u87_141, ↓x_nil, ↓x_om, ↓x_iload_1, ↓x_if_lt, ↓x_bipush_8, ↓x_icmp_lt, ↓x_iconst_m1, ↓x_ireturn, rt87, ↓x_aload_0r, ↓x_aload_0n, ↓x_aload_0q, ↓x_getfield, ft_12_12, ↓x_iload_2, ↓x_invokevirtual, mt_12_69, x_ps0, x_ps1, x_l40, x_l41, x_l42, x_l43, x_l44, ↓x_cv1, ↓x_astore_4r, ↓x_astore_4n, ↓x_astore_4q, x_cl_i, x_cl_r, x_cl_n, x_cl_q, x_cl_0, x_cl_l, ↓x_icmp_eq, ↓x_aload_4r, ↓x_aload_4n, ↓x_aload_4q, ↓x_ifnull_n, ↓x_ifnull_r, ↓x_ifnull_q, ft_12_73, ↓x_if_eq, ↓x_bipush_6, ↓x_icmp_ne, ↓x_iload_3, ↓x_ldc, it_12_78, ↓x_icmp_le, ft_12_35, mt_12_79, ↓x_cv0, ↓x_if_ne, ↓x_bipush_m2, ft_12_83, ↓x_iconst_1, ↓x_iadd, ↓x_iconst_5, ↓x_goto, ↓x_iconst_0, ↓x_istore_5, ft_12_86, ↓x_bipush_40, ↓x_icmp_ge, ↓x_iload_5, ↓x_bipush_m3, ↓x_istore_6, ↓x_invokestatic, mt_12_89, ↓x_cs1_1, ↓x_istore_7, ↓x_iload_7, mt_12_93, ↓x_cv3, ft_12_16, ↓x_iload_6, mt_12_97, ft_12_44, ↓x_new, ct_12_101, ↓x_dup_i, ↓x_dup_r, ↓x_dup_n, ↓x_invokespecial, mt_12_103, ↓x_ci7_2, mt_12_106, Int.reduceAdd, Nat.reduceAdd, true_and, and_true, true_or, or_true, false_or, or_false, reduceCtorEq, false_and, and_false, and_self, or_self, false_implies, true_implies, not_true_eq_false, not_false_eq_true, implies_true, Option.some.injEq, kt, k_rfs, ed, i_add, i_a1, i_m8, i_m5, i_m401, i_40, i_80, i_r40, i_s1, i_am1, i_sub, i_lt, i_le, i_eq, i_m1, il_le_0, il_ge_0, il_lt_0, il_gt_0, il_eq_0, il_le_1, il_ge_1, il_lt_1, il_gt_1, il_eq_1, il_le_2, il_ge_2, il_lt_2, il_gt_2, il_eq_2, il_le_3, il_ge_3, il_lt_3, il_gt_3, il_eq_3, il_le_4, il_ge_4, il_lt_4, il_gt_4, il_eq_4, il_le_5, il_ge_5, il_lt_5, il_gt_5, il_eq_5, il_le_6, il_ge_6, il_lt_6, il_gt_6, il_eq_6, il_le_7, il_ge_7, il_lt_7, il_gt_7, il_eq_7, il_le_8, il_ge_8, il_lt_8, il_gt_8, il_eq_8, il_le_12, il_ge_12, il_lt_12, il_gt_12, il_eq_12, il_le_16, il_ge_16, il_lt_16, il_gt_16, il_eq_16, il_le_20, il_ge_20, il_lt_20, il_gt_20, il_eq_20, il_le_21, il_ge_21, il_lt_21, il_gt_21, il_eq_21, il_le_40, il_ge_40, il_lt_40, il_gt_40, il_eq_40, il_le_100, il_ge_100, il_lt_100, il_gt_100, il_eq_100, il_le_120, il_ge_120, il_lt_120, il_gt_120, il_eq_120, il_le_200, il_ge_200, il_lt_200, il_gt_200, il_eq_200, il_le_400, il_ge_400, il_lt_400, il_gt_400, il_eq_400, il_le_700, il_ge_700, il_lt_700, il_gt_700, il_eq_700, kg12, kv12_0, ki8, kg11, kv11_0, kv12_5, kiL30, kiL31, kiL32, kv11_2, kg8, kv8_1, kv12_1, ki12, kv12_7, ki7, ki4, up_s, up_n]
      refine ⟨fun c1 => ⟨fun c2 => ?_, fun c2 => ?_⟩, fun c1 => ?_⟩
      · exact s98 0 (Or.inl rfl) ⟨fun y => absurd y (by decide), fun y => by omega⟩
      · exact s98 1 (Or.inr rfl) ⟨fun _ => ⟨s0.mp c1, by omega⟩, fun _ => rfl⟩
      · exact s98 0 (Or.inl rfl) ⟨fun y => absurd y (by decide), fun y => absurd (s0.mpr y.1) c1⟩
  have s42 : ∀ z dd, z < 8 → so = nI z → dd ≤ 5 → ((p = -1 ∧ dd = 0) ∨ ∃ q, q < n ∧ p = nI q ∧ S.2 4 q = 0 ∧ S.2 7 q = nI dd) → e_Sm g 87 12 cd87 Ψ 42 [some (.ref own), some (.int so), some (.int p), some (.int v), some (va_rf (k_tO U (own + 1) n p)), none, none, none] [] (K_H Z P U (B, r)) := by
    intro z dd hz ez hd hp
    have s := s60 z dd hz ez hd hp
    rw [u87_42]
    simp (decide := true) (disch := first | assumption | omega) only [↓u87_0, ↓u87_10, ↓u87_12, ↓u87_40, ↓u87_42, ↓u87_58, ↓u87_73, ↓u87_97, ↓u87_98, ↓u87_117, ↓u87_120, ↓u87_140, ↓u87_141, ↓x_nil, ↓x_om, ↓x_iload_1, ↓x_if_lt, ↓x_bipush_8, ↓x_icmp_lt, ↓x_iconst_m1, ↓x_ireturn, rt87, ↓x_aload_0r, ↓x_aload_0n, ↓x_aload_0q, ↓x_getfield, ft_12_12, ↓x_iload_2, ↓x_invokevirtual, mt_12_69, x_ps0, x_ps1, x_l40, x_l41, x_l42, x_l43, x_l44, ↓x_cv1, ↓x_astore_4r, ↓x_astore_4n, ↓x_astore_4q, x_cl_i, x_cl_r, x_cl_n, x_cl_q, x_cl_0, x_cl_l, ↓x_icmp_eq, ↓x_aload_4r, ↓x_aload_4n, ↓x_aload_4q, ↓x_ifnull_n, ↓x_ifnull_r, ↓x_ifnull_q, ft_12_73, ↓x_if_eq, ↓x_bipush_6, ↓x_icmp_ne, ↓x_iload_3, ↓x_ldc, it_12_78, ↓x_icmp_le, ft_12_35, mt_12_79, ↓x_cv0, ↓x_if_ne, ↓x_bipush_m2, ft_12_83, ↓x_iconst_1, ↓x_iadd, ↓x_iconst_5, ↓x_goto, ↓x_iconst_0, ↓x_istore_5, ft_12_86, ↓x_bipush_40, ↓x_icmp_ge, ↓x_iload_5, ↓x_bipush_m3, ↓x_istore_6, ↓x_invokestatic, mt_12_89, ↓x_cs1_1, ↓x_istore_7, ↓x_iload_7, mt_12_93, ↓x_cv3, ft_12_16, ↓x_iload_6, mt_12_97, ft_12_44, ↓x_new, ct_12_101, ↓x_dup_i, ↓x_dup_r, ↓x_dup_n, ↓x_invokespecial, mt_12_103, ↓x_ci7_2, mt_12_106, Int.reduceAdd, Nat.reduceAdd, true_and, and_true, true_or, or_true, false_or, or_false, reduceCtorEq, false_and, and_false, and_self, or_self, false_implies, true_implies, not_true_eq_false, not_false_eq_true, implies_true, Option.some.injEq, kg12, kv12_0, ki8, kg11, kv11_0, kv12_5, kiL30, kiL31, kiL32, kv11_2, kg8, kv8_1, kv12_1, ki12, kv12_7, ki7, ki4, up_s, up_n]
    refine ⟨fun c6 => ⟨fun c0 => bad (fun y => ?_), fun c0 => ⟨fun c1 => s (fun _ => in_tr (Int32.not_lt.mp c0) c1), fun c1 => bad (fun y => ?_)⟩⟩, fun c6 => s (fun y => absurd y c6)⟩
    · have := y.2.2 c6
      rw [in_lo c0] at this
      cases this
    · have := y.2.2 c6
      rw [in_f (fun w => c1 w.2)] at this
      cases this
  refine e_call (cd := cd87) hg ok87 (by rw [mL87]; exact Nat.le_of_ble_eq_true rfl) ?_
  rw [mL87]
  simp only [x_ini, x_inr, x_inn, x_inq, x_inl, x_in0, x_rp0, x_rps, Nat.reduceSub]
  simp (decide := true) (disch := first | assumption | omega) only [↓u87_0, ↓u87_10, ↓u87_12, ↓u87_40, ↓u87_58, ↓u87_60, ↓u87_73, ↓u87_97, ↓u87_98, ↓u87_117, ↓u87_120, ↓u87_140, ↓u87_141, ↓x_nil, ↓x_om, ↓x_iload_1, ↓x_if_lt, ↓x_bipush_8, ↓x_icmp_lt, ↓x_iconst_m1, ↓x_ireturn, rt87, ↓x_aload_0r, ↓x_aload_0n, ↓x_aload_0q, ↓x_getfield, ft_12_12, ↓x_iload_2, ↓x_invokevirtual, mt_12_69, x_ps0, x_ps1, x_l40, x_l41, x_l42, x_l43, x_l44, ↓x_cv1, ↓x_astore_4r, ↓x_astore_4n, ↓x_astore_4q, x_cl_i, x_cl_r, x_cl_n, x_cl_q, x_cl_0, x_cl_l, ↓x_icmp_eq, ↓x_aload_4r, ↓x_aload_4n, ↓x_aload_4q, ↓x_ifnull_n, ↓x_ifnull_r, ↓x_ifnull_q, ft_12_73, ↓x_if_eq, ↓x_bipush_6, ↓x_icmp_ne, ↓x_iload_3, ↓x_ldc, it_12_78, ↓x_icmp_le, ft_12_35, mt_12_79, ↓x_cv0, ↓x_if_ne, ↓x_bipush_m2, ft_12_83, ↓x_iconst_1, ↓x_iadd, ↓x_iconst_5, ↓x_goto, ↓x_iconst_0, ↓x_istore_5, ft_12_86, ↓x_bipush_40, ↓x_icmp_ge, ↓x_iload_5, ↓x_bipush_m3, ↓x_istore_6, ↓x_invokestatic, mt_12_89, ↓x_cs1_1, ↓x_istore_7, ↓x_iload_7, mt_12_93, ↓x_cv3, ft_12_16, ↓x_iload_6, mt_12_97, ft_12_44, ↓x_new, ct_12_101, ↓x_dup_i, ↓x_dup_r, ↓x_dup_n, ↓x_invokespecial, mt_12_103, ↓x_ci7_2, mt_12_106, Int.reduceAdd, Nat.reduceAdd, true_and, and_true, true_or, or_true, false_or, or_false, reduceCtorEq, false_and, and_false, and_self, or_self, false_implies, true_implies, not_true_eq_false, not_false_eq_true, implies_true, Option.some.injEq, kg12, kv12_0, ki8, kg11, kv11_0, kv12_5, kiL30, kiL31, kiL32, kv11_2, kg8, kv8_1, kv12_1, ki12, kv12_7, ki7, ki4, up_s, up_n]
  refine ⟨fun c1 => bad (fun y => ?_), fun c1 => ⟨fun c8 => h_thing hg E.1 hs1 ?_, fun c8 => bad (fun y => ?_)⟩⟩
  · rw [in_lo c1] at y; exact absurd y.1 (by decide)
  rotate_left
  · rw [in_f (fun w => c8 (Int32.lt_of_le_of_lt w.2 (by decide)))] at y; exact absurd y.1 (by decide)
  obtain ⟨z, ez, hz⟩ := n_of2 (Int32.not_lt.mp c1) (show so < nI 8 from c8) (by omega)
  rcases tO_ok (U := U) (s := own + 1) (o := p) n40 with ⟨e1, e2⟩ | ⟨j, j1, j2, e1, e2⟩
  · simp (decide := true) (disch := first | assumption | omega) only [↓u87_0, ↓u87_10, ↓u87_12, ↓u87_40, ↓u87_58, ↓u87_60, ↓u87_73, ↓u87_97, ↓u87_98, ↓u87_117, ↓u87_120, ↓u87_140, ↓u87_141, ↓x_nil, ↓x_om, ↓x_iload_1, ↓x_if_lt, ↓x_bipush_8, ↓x_icmp_lt, ↓x_iconst_m1, ↓x_ireturn, rt87, ↓x_aload_0r, ↓x_aload_0n, ↓x_aload_0q, ↓x_getfield, ft_12_12, ↓x_iload_2, ↓x_invokevirtual, mt_12_69, x_ps0, x_ps1, x_l40, x_l41, x_l42, x_l43, x_l44, ↓x_cv1, ↓x_astore_4r, ↓x_astore_4n, ↓x_astore_4q, x_cl_i, x_cl_r, x_cl_n, x_cl_q, x_cl_0, x_cl_l, ↓x_icmp_eq, ↓x_aload_4r, ↓x_aload_4n, ↓x_aload_4q, ↓x_ifnull_n, ↓x_ifnull_r, ↓x_ifnull_q, ft_12_73, ↓x_if_eq, ↓x_bipush_6, ↓x_icmp_ne, ↓x_iload_3, ↓x_ldc, it_12_78, ↓x_icmp_le, ft_12_35, mt_12_79, ↓x_cv0, ↓x_if_ne, ↓x_bipush_m2, ft_12_83, ↓x_iconst_1, ↓x_iadd, ↓x_iconst_5, ↓x_goto, ↓x_iconst_0, ↓x_istore_5, ft_12_86, ↓x_bipush_40, ↓x_icmp_ge, ↓x_iload_5, ↓x_bipush_m3, ↓x_istore_6, ↓x_invokestatic, mt_12_89, ↓x_cs1_1, ↓x_istore_7, ↓x_iload_7, mt_12_93, ↓x_cv3, ft_12_16, ↓x_iload_6, mt_12_97, ft_12_44, ↓x_new, ct_12_101, ↓x_dup_i, ↓x_dup_r, ↓x_dup_n, ↓x_invokespecial, mt_12_103, ↓x_ci7_2, mt_12_106, Int.reduceAdd, Nat.reduceAdd, true_and, and_true, true_or, or_true, false_or, or_false, reduceCtorEq, false_and, and_false, and_self, or_self, false_implies, true_implies, not_true_eq_false, not_false_eq_true, implies_true, Option.some.injEq, kg12, kv12_0, ki8, kg11, kv11_0, kv12_5, kiL30, kiL31, kiL32, kv11_2, kg8, kv8_1, kv12_1, ki12, kv12_7, ki7, ki4, up_s, up_n]
    refine ⟨fun h => s42 z 0 hz ez (by omega) (Or.inl ⟨h, rfl⟩), fun h => ⟨fun _ => bad (fun y => ?_), fun h2 => absurd e1 h2⟩⟩
    rcases y.2.1 with w | w
    · exact h w
    · rw [e2] at w; exact absurd w.1 (by decide)
  · have tt := (k_th_t E.1 hs1 j1).1
    have es : P.1 220 (k_th U (own + 1) j) = S.2 4 j := (hS j j1).1
    have nm1 : ¬ p = -1 := fun w => by
      have h0 : (0 : Int32) ≤ nI j := nI_pos' (by omega)
      rw [← j2, w] at h0
      exact absurd h0 (by decide)
    obtain ⟨s', d', k1, k2, k3, k4, k5, k6⟩ := hI.1.2.2.1.2 j j1
    rw [e1, k_rfs] at s42 ⊢
    simp (decide := true) (disch := first | assumption | omega) only [↓u87_0, ↓u87_10, ↓u87_12, ↓u87_40, ↓u87_58, ↓u87_60, ↓u87_73, ↓u87_97, ↓u87_98, ↓u87_117, ↓u87_120, ↓u87_140, ↓u87_141, ↓x_nil, ↓x_om, ↓x_iload_1, ↓x_if_lt, ↓x_bipush_8, ↓x_icmp_lt, ↓x_iconst_m1, ↓x_ireturn, rt87, ↓x_aload_0r, ↓x_aload_0n, ↓x_aload_0q, ↓x_getfield, ft_12_12, ↓x_iload_2, ↓x_invokevirtual, mt_12_69, x_ps0, x_ps1, x_l40, x_l41, x_l42, x_l43, x_l44, ↓x_cv1, ↓x_astore_4r, ↓x_astore_4n, ↓x_astore_4q, x_cl_i, x_cl_r, x_cl_n, x_cl_q, x_cl_0, x_cl_l, ↓x_icmp_eq, ↓x_aload_4r, ↓x_aload_4n, ↓x_aload_4q, ↓x_ifnull_n, ↓x_ifnull_r, ↓x_ifnull_q, ft_12_73, ↓x_if_eq, ↓x_bipush_6, ↓x_icmp_ne, ↓x_iload_3, ↓x_ldc, it_12_78, ↓x_icmp_le, ft_12_35, mt_12_79, ↓x_cv0, ↓x_if_ne, ↓x_bipush_m2, ft_12_83, ↓x_iconst_1, ↓x_iadd, ↓x_iconst_5, ↓x_goto, ↓x_iconst_0, ↓x_istore_5, ft_12_86, ↓x_bipush_40, ↓x_icmp_ge, ↓x_iload_5, ↓x_bipush_m3, ↓x_istore_6, ↓x_invokestatic, mt_12_89, ↓x_cs1_1, ↓x_istore_7, ↓x_iload_7, mt_12_93, ↓x_cv3, ft_12_16, ↓x_iload_6, mt_12_97, ft_12_44, ↓x_new, ct_12_101, ↓x_dup_i, ↓x_dup_r, ↓x_dup_n, ↓x_invokespecial, mt_12_103, ↓x_ci7_2, mt_12_106, Int.reduceAdd, Nat.reduceAdd, true_and, and_true, true_or, or_true, false_or, or_false, reduceCtorEq, false_and, and_false, and_self, or_self, false_implies, true_implies, not_true_eq_false, not_false_eq_true, implies_true, Option.some.injEq, k_rfs, es, kg12, kv12_0, ki8, kg11, kv11_0, kv12_5, kiL30, kiL31, kiL32, kv11_2, kg8, kv8_1, kv12_1, ki12, kv12_7, ki7, ki4, up_s, up_n]
    refine ⟨fun h => absurd h nm1, fun h => ⟨fun h2 => ?_, fun h2 => bad (fun y => ?_)⟩⟩
    · have s0 : s' = 0 := by
        rw [k2, show (0 : Int32) = nI 0 from rfl, i_eq (by omega) (by omega)] at h2
        exact h2
      exact s42 z (d' + 1) hz ez (by have := k5 s0; omega) (Or.inr ⟨j, j1, j2, h2, k3⟩)
    · rcases y.2.1 with w | w
      · exact nm1 w
      · rw [j2, i_cl (by omega)] at w; exact h2 w.2
end VH
