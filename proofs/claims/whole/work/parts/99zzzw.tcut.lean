/-! cut and crash, as calls -/
section VZ
variable {g : e_G} {Ψ : e_Q} {B : Nat → Option e_Cl} {Z : k_Z} {P Pd : k_P} {U Ud : k_U} {r r0 : Nat × Nat} {S : m_S} {N own n b l nl nw nr na ne c T ν : Nat} {ch : Nat → List Nat}
theorem s_cut2 (hg : e_GK g) (hA : e_AK g) (hI : I_all n b l nl nw nr na ne ch 0 c T S) (hK : K_all N own n b l nl nw nr ne ch 0 Z P U r S) (hR : K_ro N c T r0 r Z.2.1 S) (hc : c + 1 ≤ 512) (hν : ν ≤ nr) (hd : DD own b l nr ν S P U Pd Ud) (Ed : k_E N own Z Ud r)
    (q : ∀ Z' P' U' r' S', V own (c + 1) r0 Z' P' U' r' S' → Z'.1 own = 13 → Z'.1 (own + 16) = 30 → (U'.2.1 (own + 16)).length = y_cw (S.2 17) 4 0 ν → r_cCut (nI ν) S (nI (y_cw (S.2 17) 4 0 ν)) S' → Ψ none (K_H Z' P' U' (B, r'))) : e_Sc g 151 [.ref own] (K_H Z Pd Ud (B, r)) Ψ := by
  obtain ⟨hL, hD, hE, hLk, hV, hM, hPo, hX⟩ := id hI
  have b400 := hD.1
  have n40 := hL.2.2.1.1
  have nr11 : nr ≤ 1100 := by
    obtain ⟨p1, p2, p3, _⟩ := hPo
    omega
  have eno : y_cw (S.2 17) 0 0 ν = md S.2 ν := rfl
  have non : md S.2 ν ≤ n := by rw [hL.2.1]; exact md_mono hν
  have nle : y_cw (S.2 17) 4 0 ν ≤ ne := by rw [← hE.2.2.1]; exact y_cw_mono hν
  have neb := hE.2.1
  generalize hne : y_cw (S.2 17) 4 0 ν = ne' at *
  generalize hno : md S.2 ν = no at *
  obtain ⟨tF2, eF2, cA2⟩ := ct2_ok (S := S) (b := b) eno hne
  obtain ⟨c1, c2, c3, c4⟩ := ct3_ok no 0 (y_ct2 (y_cu 1 b (y_ct0 ν S)))
  have hSb : y_ct3 0 no (y_ct2 (y_cu 1 b (y_ct0 ν S))) = y_ct3 0 no (y_ct2 (y_cu 1 b (y_ct0 ν S))) := rfl
  generalize hS2 : y_ct2 (y_cu 1 b (y_ct0 ν S)) = S2 at *
  generalize hS3 : y_ct3 0 no S2 = Sb at *
  have bF : ∀ f, Sb.1 f = S2.1 f := fun f => by rw [c1]
  have b3 : ∀ f, f ∉ fp_vA → Sb.2 f = S2.2 f := fun f hf => c2 f (fun z => hf (by clear hf; revert f; decide))
  have cA : CtA (Cb S ν) b S.2 Sb.2 := ⟨fun f h1 h2 => (b3 f h2).trans (cA2.1 f h1), fun f hf u => by rw [b3 f (by clear b3 c2 eF2; revert f; decide)]; exact cA2.2 f hf u⟩
  have bA : ∀ f, f ∉ [9, 10, 11, 97] → f ∉ fp_cu → Sb.2 f = S.2 f := fun f h1 h2 => (c2 f h1).trans (cA2.1 f h2)
  have hj0 : JK S Sb no 0 Sb := by
    refine ⟨fun _ _ => rfl, fun _ _ => rfl, fun o _ ho => ?_, elS.rf, fun x hx => ?_, ?_, fun o ho => ?_⟩
    · obtain ⟨x1, x2, x3, x4⟩ := c3 o (by omega) (by omega)
      exact ⟨by rw [x1, cA2.1 _ (by decide)], x2, x3, x4⟩
    · by_cases cx : 40 ≤ x ∧ x < 40 + no
      · have := (c3 (x - 40) (by omega) (by omega)).2.1
        rw [show 40 + (x - 40) = x by omega] at this
        exact ⟨0, by omega, this⟩
      · rw [(c4 x (by omega)).2.1, cA2.1 _ (by decide)]
        exact hL.2.2.2.2.2.2.2.2.2 x hx
    · rw [bA _ (by decide) (by decide)]; exact hM.2.2.2.2.2.2.1
    · obtain ⟨v, y1, y2, y3, y4, y5⟩ := hV o (by omega)
      refine ⟨1, (c3 o (by omega) (by omega)).2.2.2, by omega, by omega, ?_, ?_⟩
      · rw [bA _ (by decide) (by decide)]; exact y4
      · rw [bA 99 (by decide) (by decide), bA 4 (by decide) (by decide), bA 6 (by decide) (by decide)]; exact y5
  obtain ⟨tf1, tf2, tf3, tf4, tf5, tf6, tf7, tf8, tf9, tf10, tf11⟩ := tF2
  obtain ⟨tq, tq1, tq2⟩ := hM.2.2.2.1
  refine s_rebuild hg hA hI hK hν hd Ed cA ((bF _).trans ((eF2 _ (by decide)).trans hM.2.2.1)) (by rw [bF, eF2 _ (by decide), tq2]; exact nI_pos' (by omega)) ((bF _).trans tf4) ((bF _).trans tf6) hno hne hj0 (fun N' Z' P' U' r' S4 hr4 hj E' hN k5 R5 k1 R1 sp spL ve fv h1 h2 => ?_)
  obtain ⟨j1, j2, j3, j4, j5, j6, j7⟩ := hj
  obtain ⟨z1, z2, z3, z4, z5⟩ := ct5_ok no 0 S4 (by omega)
  have z2' : ∀ f, f ∉ fp_vA → (y_ct5 0 no S4).2 f = Sb.2 f := fun f hf => (z2 f (fun z => hf (by clear hf; revert f; decide))).trans (j2 f hf)
  have cA' : CtA (Cb S ν) b S.2 (y_ct5 0 no S4).2 := ⟨fun f h1 h2 => (z2' f h2).trans (cA.1 f h1 h2), fun f hf u => by rw [z2' f (by clear z2' z2 j2 b3 c2 eF2 bA; revert f; decide)]; exact cA.2 f hf u⟩
  have fE : ∀ f, f ∉ fp_s4 → (y_ct5 0 no S4).1 f = S2.1 f := fun f hf => by rw [z1, j1 f hf, bF]
  have tF' : CtF ν no ne' b S (y_ct5 0 no S4) := ⟨by rw [fE _ (by decide)]; exact tf1, by rw [fE _ (by decide)]; exact tf2, by rw [fE _ (by decide)]; exact tf3, by rw [fE _ (by decide)]; exact tf4, by rw [fE _ (by decide)]; exact tf5, by rw [fE _ (by decide)]; exact tf6, by rw [fE _ (by decide)]; exact tf7, by rw [fE _ (by decide)]; exact tf8, by rw [fE _ (by decide)]; exact tf9, by rw [fE _ (by decide)]; exact tf10, by rw [fE _ (by decide)]; exact tf11⟩
  have eF' : ∀ f, f ∉ fp_ctF → f ∉ fp_xF → (y_ct5 0 no S4).1 f = S.1 f := fun f h1 h2 => by
    rw [fE f (fun z => h2 (by clear h1 h2; revert f; decide))]; exact eF2 f h1
  have wz : w_sz (y_ct5 0 no S4).2 := fun x hx => by
    by_cases cx : x < no
    · rw [(z3 x (by omega) (by omega)).2.1]; exact j5 _ (by omega)
    · rw [(z4 x (by omega)).2.1]; exact j5 x hx
  have w01 : w_01 40 ((y_ct5 0 no S4).2 101) := by rw [z2 _ (by decide)]; exact j6
  have hV' : I_ve no ne' (y_ct5 0 no S4) := by
    rw [hne] at j7
    exact j7.cg (z2 _ (by decide)) (z2 _ (by decide)) (z2 _ (by decide)) (z2 _ (by decide)) (z2 _ (by decide))
  have R5' : R_sh P' U' (own + 5) no (y_ct5 0 no S4).2 40 := R5.keep (fun _ _ _ _ => rfl) (fun _ _ => rfl) (z2 _ (by decide)) (z2 _ (by decide)) (z2 _ (by decide)) (fun o ho => z4 _ (by omega)) (fun x h1 h2 => z5 x (by omega))
  have ve' : K_ve own no P' U' (y_ct5 0 no S4) := ve.cg (fun _ => rfl) (fun _ _ => ⟨rfl, rfl, rfl⟩) (fun f hf => z2 f (by clear z2' z2 j2 b3 c2 eF2 bA fE eF'; revert f; decide))
  have hI' := I_cut hI hc hν (eno.trans rfl) hne tF' eF' cA' wz w01 hV'
  have hK' := K_cut hI hK hν hno hne hd fv E' k5 R5' k1 R1 sp spL ve' tF' eF' cA'
  have la : (y_ct5 0 no S4).1 66 = S.1 66 := eF' _ (by decide) (by decide)
  have l16 : (U'.2.1 (own + 16)).length = ne' := by rw [hK'.2.2.2.2.2.1, List.length_map, List.length_range]
  refine q Z' P' U' r' (y_ct5 0 no S4) ⟨N', no, b, 0, 0, 0, ν, na, ne', ch, T, hI', hK', ?_⟩ E'.2.1 (E'.1.hse E'.2.1).2.2.2.2.2.2.1 l16 (Or.inr ⟨ν, b, S4, ?_, rfl, by omega, b400, hD.2.1, by rw [eno]; omega, by rw [hne]; omega, ?_, ?_, ?_, by rw [eno], by rw [hne]⟩)
  · obtain ⟨y1, y2⟩ := hR.mono hN
    unfold K_ro
    rw [la, show Z'.2.1 = Z.2.1 by rw [fv.2.1]]
    have key : ∀ a b k t l c m : Nat, m ≤ 40 → a ≤ b + 9 * m → b ≤ k + t + l + 400 * c → a ≤ k + t + l + 400 * (c + 1) := fun a b k t l c m hm h1 h2 => by omega
    have key2 : ∀ a b k t l c m : Nat, m ≤ 40 → a ≤ b + 70 * m → b ≤ k + t + l + 3000 * c → a ≤ k + t + l + 3000 * (c + 1) := fun a b k t l c m hm h1 h2 => Nat.le_trans h1 (Nat.le_trans (Nat.add_le_add_left (Nat.le_trans (Nat.mul_le_mul_left 70 hm) (Nat.le_of_ble_eq_true rfl : 70 * 40 ≤ 3000)) b) (by rw [Nat.mul_succ, ← Nat.add_assoc]; exact Nat.add_le_add_right h2 3000))
    exact ⟨key _ _ _ _ _ _ no (by omega) h1 y1, key2 _ _ _ _ _ _ no (by omega) h2 y2⟩
  · rw [hL.1]
    exact in_tr (nI_pos' (by omega)) (nI_le hν (by omega))
  · rw [eno, hne, hS2, hS3]; exact hr4
  · rw [eno, j1 _ (by decide), bF]; exact tf4
  · rw [hne, j1 _ (by decide), bF]; exact tf5
theorem t_cut (hg : e_GK g) (hA : e_AK g) {x : Int32} : TW g own r0 108 236 [.int x] := by
  intro c Z P U r S B Ψ hc hV q
  have hV0 := hV
  obtain ⟨N, n, b, l, nl, nw, nr, na, ne, ch, T, hI, hK, hR⟩ := hV
  have E := hK.1
  have tO : Z.1 own = 13 := E.2.1
  have a8 : Z.1 (own + 17) = 5 := (E.1.hse tO).2.2.2.2.2.2.2.1
  have l18 : (U.2.1 (own + 17 + 1)).length = nr := hK.2.1.1
  have nr11 : nr ≤ 1100 := by
    obtain ⟨p1, p2, p3, _⟩ := hI.2.2.2.2.2.2.1
    omega
  have erw : S.1 13 = nI nr := hI.1.1
  have bad : y_isIn x 0 (nI nr) = false → Ψ (some (.int (-1))) (K_H Z P U (B, r)) := fun h => q (-1) Z P U r S (hV0.next hc) (fun M h' Φ hq => c_cut hg (Or.inl ⟨by rw [erw]; exact h, rfl, rfl⟩) hq)
  refine e_call (cd := cd108) hg ok108 (by rw [mL108]; exact Nat.le_of_ble_eq_true rfl) ?_
  rw [mL108]
  simp only [x_ini, x_inr, x_inn, x_inq, x_inl, x_in0, x_rp0, x_rps, Nat.reduceSub]
  simp (decide := true) (disch := first | assumption | omega) only [↓u108_0, ↓u108_15, ↓u108_17, ↓x_nil, ↓x_om, ↓x_iload_1, ↓x_if_lt, ↓x_aload_0r, ↓x_aload_0n, ↓x_aload_0q, ↓x_getfield, ft_12_44, ↓x_invokevirtual, mt_12_176, x_ps0, x_ps1, x_l40, x_l41, x_l42, x_l43, x_l44, ↓x_cv0, ↓x_icmp_le, ↓x_iconst_m1, ↓x_ireturn, rt108, mt_12_269, ↓x_cv1, mt_12_272, ft_12_38, mt_12_165, Int.reduceAdd, Nat.reduceAdd, true_and, and_true, true_or, or_true, false_or, or_false, reduceCtorEq, false_and, and_false, and_self, or_self, false_implies, true_implies, not_true_eq_false, not_false_eq_true, implies_true, Option.some.injEq, kg12, kv12_7, ki4, ki12, kv12_6, kiL30, kiL31, kiL32, up_s, up_n]
  refine ⟨fun c0 => bad (in_lo c0), fun c0 => ?_⟩
  refine h_logSize hg hA E.1 a8 ?_
  rw [l18]
  simp (decide := true) (disch := first | assumption | omega) only [↓u108_0, ↓u108_15, ↓u108_17, ↓x_nil, ↓x_om, ↓x_iload_1, ↓x_if_lt, ↓x_aload_0r, ↓x_aload_0n, ↓x_aload_0q, ↓x_getfield, ft_12_44, ↓x_invokevirtual, mt_12_176, x_ps0, x_ps1, x_l40, x_l41, x_l42, x_l43, x_l44, ↓x_cv0, ↓x_icmp_le, ↓x_iconst_m1, ↓x_ireturn, rt108, mt_12_269, ↓x_cv1, mt_12_272, ft_12_38, mt_12_165, Int.reduceAdd, Nat.reduceAdd, true_and, and_true, true_or, or_true, false_or, or_false, reduceCtorEq, false_and, and_false, and_self, or_self, false_implies, true_implies, not_true_eq_false, not_false_eq_true, implies_true, Option.some.injEq, kg12, kv12_7, ki4, ki12, kv12_6, kiL30, kiL31, kiL32, up_s, up_n]
  refine ⟨fun c1 => ?_, fun c1 => bad (in_f (fun w => c1 w.2))⟩
  obtain ⟨ν, rfl, hν⟩ := n_of2 (m := nr + 1) (Int32.not_lt.mp c0) (Int32.lt_of_le_of_lt c1 (nI_lt (by omega) (by omega))) (by omega)
  refine s_drop hg hA hI hK (show ν ≤ nr by omega) (fun Pd Ud hd Ed => ?_)
  simp (decide := true) (disch := first | assumption | omega) only [↓u108_0, ↓u108_15, ↓u108_17, ↓x_nil, ↓x_om, ↓x_iload_1, ↓x_if_lt, ↓x_aload_0r, ↓x_aload_0n, ↓x_aload_0q, ↓x_getfield, ft_12_44, ↓x_invokevirtual, mt_12_176, x_ps0, x_ps1, x_l40, x_l41, x_l42, x_l43, x_l44, ↓x_cv0, ↓x_icmp_le, ↓x_iconst_m1, ↓x_ireturn, rt108, mt_12_269, ↓x_cv1, mt_12_272, ft_12_38, mt_12_165, Int.reduceAdd, Nat.reduceAdd, true_and, and_true, true_or, or_true, false_or, or_false, reduceCtorEq, false_and, and_false, and_self, or_self, false_implies, true_implies, not_true_eq_false, not_false_eq_true, implies_true, Option.some.injEq, kg12, kv12_7, ki4, ki12, kv12_6, kiL30, kiL31, kiL32, up_s, up_n]
  refine s_cut2 hg hA hI hK hR hc (show ν ≤ nr by omega) hd Ed (fun Z' P' U' r' S' hV' t0 t16 l16 hr => ?_)
  have t0' : Z'.1 own = 13 := t0
  simp (decide := true) (disch := first | assumption | omega) only [↓u108_0, ↓u108_15, ↓u108_17, ↓x_nil, ↓x_om, ↓x_iload_1, ↓x_if_lt, ↓x_aload_0r, ↓x_aload_0n, ↓x_aload_0q, ↓x_getfield, ft_12_44, ↓x_invokevirtual, mt_12_176, x_ps0, x_ps1, x_l40, x_l41, x_l42, x_l43, x_l44, ↓x_cv0, ↓x_icmp_le, ↓x_iconst_m1, ↓x_ireturn, rt108, mt_12_269, ↓x_cv1, mt_12_272, ft_12_38, mt_12_165, Int.reduceAdd, Nat.reduceAdd, true_and, and_true, true_or, or_true, false_or, or_false, reduceCtorEq, false_and, and_false, and_self, or_self, false_implies, true_implies, not_true_eq_false, not_false_eq_true, implies_true, Option.some.injEq, kg12, kv12_7, ki4, ki12, kv12_6, kiL30, kiL31, kiL32, up_s, up_n]
  refine l_size hA (k_tL30 t16) ?_
  rw [l16]
  simp (decide := true) (disch := first | assumption | omega) only [↓u108_0, ↓u108_15, ↓u108_17, ↓x_nil, ↓x_om, ↓x_iload_1, ↓x_if_lt, ↓x_aload_0r, ↓x_aload_0n, ↓x_aload_0q, ↓x_getfield, ft_12_44, ↓x_invokevirtual, mt_12_176, x_ps0, x_ps1, x_l40, x_l41, x_l42, x_l43, x_l44, ↓x_cv0, ↓x_icmp_le, ↓x_iconst_m1, ↓x_ireturn, rt108, mt_12_269, ↓x_cv1, mt_12_272, ft_12_38, mt_12_165, Int.reduceAdd, Nat.reduceAdd, true_and, and_true, true_or, or_true, false_or, or_false, reduceCtorEq, false_and, and_false, and_self, or_self, false_implies, true_implies, not_true_eq_false, not_false_eq_true, implies_true, Option.some.injEq, kg12, kv12_7, ki4, ki12, kv12_6, kiL30, kiL31, kiL32, up_s, up_n]
  exact q _ Z' P' U' r' S' hV' (fun M h Φ hq => c_cut hg hr hq)
theorem t_crash (hg : e_GK g) (hA : e_AK g) : TW g own r0 109 237 [] := by
  intro c Z P U r S B Ψ hc hV q
  obtain ⟨N, n, b, l, nl, nw, nr, na, ne, ch, T, hI, hK, hR⟩ := hV
  have E := hK.1
  have tO : Z.1 own = 13 := E.2.1
  have a8 : Z.1 (own + 17) = 5 := (E.1.hse tO).2.2.2.2.2.2.2.1
  have nr11 : nr ≤ 1100 := by
    obtain ⟨p1, p2, p3, _⟩ := hI.2.2.2.2.2.2.1
    omega
  obtain ⟨ν, hν, ef⟩ := hI.2.2.2.2.2.1.2.2.2.2.1
  have pf : P.1 81 (own + 17) = nI ν := ((mi_iff.mp hK.2.2.2.2.2.2.2.2.2).1 (81, 17, 14) (by decide)).trans ef
  refine e_call (cd := cd109) hg ok109 (by rw [mL109]; exact Nat.le_of_ble_eq_true rfl) ?_
  rw [mL109]
  simp only [x_ini, x_inr, x_inn, x_inq, x_inl, x_in0, x_rp0, x_rps, Nat.reduceSub]
  simp (decide := true) (disch := first | assumption | omega) only [↓u109_0, ↓x_nil, ↓x_om, ↓x_aload_0r, ↓x_aload_0n, ↓x_aload_0q, ↓x_getfield, ft_12_44, ft_12_275, ↓x_invokevirtual, mt_12_269, x_ps0, x_ps1, x_l40, x_l41, x_l42, x_l43, x_l44, ↓x_cv1, mt_12_272, ↓x_cv0, ft_12_38, mt_12_165, ↓x_ireturn, rt109, Int.reduceAdd, Nat.reduceAdd, true_and, and_true, true_or, or_true, false_or, or_false, reduceCtorEq, false_and, and_false, and_self, or_self, false_implies, true_implies, not_true_eq_false, not_false_eq_true, implies_true, Option.some.injEq, pf, kg12, kv12_7, kg4, kv4_1, ki12, kv12_6, kiL30, kiL31, kiL32, up_s, up_n]
  refine s_drop hg hA hI hK hν (fun Pd Ud hd Ed => ?_)
  simp (decide := true) (disch := first | assumption | omega) only [↓u109_0, ↓x_nil, ↓x_om, ↓x_aload_0r, ↓x_aload_0n, ↓x_aload_0q, ↓x_getfield, ft_12_44, ft_12_275, ↓x_invokevirtual, mt_12_269, x_ps0, x_ps1, x_l40, x_l41, x_l42, x_l43, x_l44, ↓x_cv1, mt_12_272, ↓x_cv0, ft_12_38, mt_12_165, ↓x_ireturn, rt109, Int.reduceAdd, Nat.reduceAdd, true_and, and_true, true_or, or_true, false_or, or_false, reduceCtorEq, false_and, and_false, and_self, or_self, false_implies, true_implies, not_true_eq_false, not_false_eq_true, implies_true, Option.some.injEq, kg12, kv12_7, kg4, kv4_1, ki12, kv12_6, kiL30, kiL31, kiL32, up_s, up_n]
  refine s_cut2 hg hA hI hK hR hc hν hd Ed (fun Z' P' U' r' S' hV' t0 t16 l16 hr => ?_)
  have t0' : Z'.1 own = 13 := t0
  simp (decide := true) (disch := first | assumption | omega) only [↓u109_0, ↓x_nil, ↓x_om, ↓x_aload_0r, ↓x_aload_0n, ↓x_aload_0q, ↓x_getfield, ft_12_44, ft_12_275, ↓x_invokevirtual, mt_12_269, x_ps0, x_ps1, x_l40, x_l41, x_l42, x_l43, x_l44, ↓x_cv1, mt_12_272, ↓x_cv0, ft_12_38, mt_12_165, ↓x_ireturn, rt109, Int.reduceAdd, Nat.reduceAdd, true_and, and_true, true_or, or_true, false_or, or_false, reduceCtorEq, false_and, and_false, and_self, or_self, false_implies, true_implies, not_true_eq_false, not_false_eq_true, implies_true, Option.some.injEq, kg12, kv12_7, kg4, kv4_1, ki12, kv12_6, kiL30, kiL31, kiL32, up_s, up_n]
  refine l_size hA (k_tL30 t16) ?_
  rw [l16]
  simp (decide := true) (disch := first | assumption | omega) only [↓u109_0, ↓x_nil, ↓x_om, ↓x_aload_0r, ↓x_aload_0n, ↓x_aload_0q, ↓x_getfield, ft_12_44, ft_12_275, ↓x_invokevirtual, mt_12_269, x_ps0, x_ps1, x_l40, x_l41, x_l42, x_l43, x_l44, ↓x_cv1, mt_12_272, ↓x_cv0, ft_12_38, mt_12_165, ↓x_ireturn, rt109, Int.reduceAdd, Nat.reduceAdd, true_and, and_true, true_or, or_true, false_or, or_false, reduceCtorEq, false_and, and_false, and_self, or_self, false_implies, true_implies, not_true_eq_false, not_false_eq_true, implies_true, Option.some.injEq, kg12, kv12_7, kg4, kv4_1, ki12, kv12_6, kiL30, kiL31, kiL32, up_s, up_n]
  exact q _ Z' P' U' r' S' hV' (fun M h Φ hq => c_crash hg (by rw [ef]; exact hr) hq)
end VZ
