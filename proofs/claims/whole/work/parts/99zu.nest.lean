/-! nest -/
section TX
variable {g : e_G} {Z : k_Z} {P : k_P} {U : k_U} {r r0 : Nat × Nat} {S S' : m_S} {N own n b l nl nw nr na ne c T t v : Nat} {ch : Nat → List Nat}
/-- one level more -/
def lvl_up (t v : Nat) (S S' : m_S) : Prop := S'.1 = S.1 ∧ (∀ f, f ∉ [51, 54] → S'.2 f = S.2 f) ∧ S'.2 51 = va_up (S.2 51) t (nI (v + 1)) ∧ S'.2 54 = va_up (S.2 54) (5 * t + (v + 1)) (S.2 52 t)
theorem I_nest (hI : I_all n b l nl nw nr na ne ch 0 c T S) (h1 : 1 ≤ t) (h2 : t ≤ b) (st : S.2 47 t = 1) (ev : S.2 51 t = nI v) (hv : v < 4) (hs : lvl_up t v S S') : I_all n b l nl nw nr na ne ch 0 c T S' := by
  obtain ⟨hL, hD, hE, hK, hV, hM, hP, hX⟩ := hI
  obtain ⟨fF, fA, eL, eB⟩ := hs
  have rwe : rw_eq nr S.2 S'.2 := fun j _ => ⟨by rw [fA _ (by decide)], by rw [fA _ (by decide)], by rw [fA _ (by decide)], by rw [fA _ (by decide)], by rw [fA _ (by decide)], by rw [fA _ (by decide)], by rw [fA _ (by decide)], by rw [fA _ (by decide)]⟩
  have ace : ac_eq S.2 S'.2 := ⟨fA _ (by decide), fA _ (by decide), fA _ (by decide), fA _ (by decide), fA _ (by decide), fA _ (by decide), fA _ (by decide), fA _ (by decide), fA _ (by decide)⟩
  have est := fA 47 (by decide)
  have un : ∀ u, undw S'.2 u ↔ undw S.2 u := fun u => by unfold undw; rw [est]
  have lve : v_lv l S'.2 = v_lv l S.2 := by unfold v_lv; rw [fA _ (by decide)]
  have vl : v_L nl S'.2 = v_L nl S.2 := v_L_cg (fun f hf => fA f (by revert f; decide))
  have vw : v_W nw S'.2 = v_W nw S.2 := v_W_cg (fun f hf => fA f (by revert f; decide))
  refine ⟨?_, ?_, ?_, ?_, hV.cg (fA _ (by decide)) (fA _ (by decide)) (fA _ (by decide)) (fA _ (by decide)) (fA _ (by decide)), hM.cg (Nat.le_refl _) (fun f _ => by rw [fF]) (fA _ (by decide)), ?_, fun u u1 u2 hin => ?_⟩
  · exact hL.cg (by rw [fF]; exact hL.1) (Nat.le_refl _) rwe (fun j j1 j2 => by omega) (by rw [fF]) ace (fA _ (by decide)) (fA _ (by decide)) (fA _ (by decide)) (fA _ (by decide)) (fA _ (by decide)) (fA _ (by decide)) (fun _ _ _ _ => rfl) (fun u _ _ _ => ⟨by rw [fA _ (by decide)], by rw [fA _ (by decide)]⟩) (fun u _ _ => ⟨(un u).mp, fun z => Or.inr (by rw [est] at z; exact z)⟩)
  · obtain ⟨d1, d2, d3, d4, d5, d6, d7, d8, d9, d10, d11⟩ := hD
    refine ⟨d1, by rw [fF]; exact d2, fun u u1 u2 => ?_, fun u u1 u2 => ?_, by rw [fF]; exact d5, d6, fun i hi => by rw [fA _ (by decide)]; exact d7 i hi, by rw [lve]; exact d8, fun u => by rw [lve, d9 u, un u], Or.inl rfl, fun u u1 u2 hin => ?_⟩
    · obtain ⟨s, lv, m, x, a1, a2, a3, a4, a5, a6, a7, a8, a9, b1, bs, b2⟩ := d3 u u1 u2
      by_cases e : u = t
      · subst e
        have lv' : lv = v := by rw [ev, i_eq (by omega) (by omega)] at a4; exact a4.symm
        subst lv'
        have s1 : s = 1 := by rw [st, show (1 : Int32) = nI 1 from rfl, i_eq (by omega) (by omega)] at a1; exact a1.symm
        refine ⟨s, lv + 1, m, x, by rw [est]; exact a1, a2, a3, by rw [eL, up_s], by omega, by omega, by rw [fA _ (by decide)]; exact a7, a8, by rw [fA _ (by decide)]; exact a9, b1, fun w => if w = lv + 1 then m else bs w, fun w w1 w2 => ?_⟩
        dsimp only
        by_cases ew : w = lv + 1
        · subst ew
          refine ⟨by rw [eB, up_s, if_pos rfl]; exact a7, by rw [if_pos rfl]; exact Nat.le_refl _, fun w' z1 z2 => ?_⟩
          rw [if_pos rfl, if_pos (show w' = lv + 1 by omega)]
          exact Nat.le_refl _
        · obtain ⟨y1, y2, y3⟩ := b2 w w1 (by omega)
          refine ⟨by rw [eB, up_n (by omega), if_neg ew]; exact y1, by rw [if_neg ew]; exact y2, fun w' z1 z2 => ?_⟩
          rw [if_neg ew]
          by_cases ew' : w' = lv + 1
          · rw [if_pos ew']; exact y2
          · rw [if_neg ew']; exact y3 w' z1 (by omega)
      · exact ⟨s, lv, m, x, by rw [est]; exact a1, a2, a3, by rw [eL, up_n e]; exact a4, a5, a6, by rw [fA _ (by decide)]; exact a7, a8, by rw [fA _ (by decide)]; exact a9, b1, bs, fun w w1 w2 => by rw [eB, up_n (by omega)]; exact b2 w w1 w2⟩
    · have ne : u ≠ t := by omega
      obtain ⟨z1, z2, z3, z4, z5, z6, z7⟩ := d4 u u1 u2
      exact ⟨by rw [est]; exact z1, by rw [fA _ (by decide)]; exact z2, by rw [eL, up_n ne]; exact z3, by rw [fA _ (by decide)]; exact z4, by rw [fA _ (by decide)]; exact z5, by rw [fA _ (by decide)]; exact z6, by rw [fA _ (by decide)]; exact z7⟩
    · obtain ⟨o', k', q', c1, c2, c3, c4, c5⟩ := d11 u u1 u2 (by unfold inp at hin ⊢; rw [est] at hin; exact hin)
      exact ⟨o', k', q', by rw [fA _ (by decide)]; exact c1, by rw [fA _ (by decide)]; exact c2, c3, by rw [fA _ (by decide)]; exact c4, c5⟩
  · exact hE.cg (Nat.le_refl _) rwe (fun j j1 j2 => by omega) (by rw [fF]) (fA _ (by decide)) (fA _ (by decide)) (fA _ (by decide)) (fun _ _ _ _ => rfl) (fun u _ _ => by rw [fA _ (by decide)]) (fun u _ _ => by rw [est])
  · obtain ⟨k1, k2, k3, k4, k5, k6, k7, k8, k9, k10, k11, k13, k12⟩ := hK
    have b400 := hD.1
    have lev : ∀ u w, w ≤ 4 → nI w ≤ S.2 51 u → (u = t → w ≤ v) ∧ nI w ≤ S'.2 51 u := fun u w w4 hw => by
      by_cases e : u = t
      · subst e
        rw [ev, i_le (by omega) (by omega)] at hw
        exact ⟨fun _ => hw, by rw [eL, up_s, i_le (by omega) (by omega)]; omega⟩
      · exact ⟨fun z => absurd z e, by rw [eL, up_n e]; exact hw⟩
    refine ⟨by rw [fF]; exact k1, by rw [fF]; exact k2, k3, by unfold w_ah; rw [fA _ (by decide)]; exact k4, fun y hy => ?_, fun y hy => ?_, by rw [vw]; exact k7, fun u u1 u2 z => ?_, by rw [vl, fA 4 (by decide)]; exact k9, by rw [vl]; exact k10, ?_, ?_, fun u u1 u2 hu p i hp hkk => ?_⟩
    · rw [vl] at hy
      obtain ⟨u, o', w, c1, c2, c3, c4, c5, c6, c7, c8, c9, g1, g2, g3⟩ := k5 y hy
      exact ⟨u, o', w, c1, c2, c3, (un u).mpr c4, c5, c6, c7, c8, c9, g1, (lev u w g1 g2).2, g3.imp id (fun z => ⟨z.1, by unfold inp at z ⊢; rw [est]; exact z.2⟩)⟩
    · rw [vw] at hy
      have := k6 y hy
      unfold I_w1 dp o_1 at this ⊢
      rw [est, fA 68 (by decide), fA 71 (by decide), fA 7 (by decide), fA 67 (by decide), fA 69 (by decide), fA 70 (by decide)]
      exact this
    · rw [vw]; exact k8 u u1 u2 (by rw [← est]; exact z)
    · unfold rem7 dp o_1 at k11 ⊢
      unfold undw at k11 ⊢
      rw [vl, est, fA 55 (by decide), fA 68 (by decide), fA 71 (by decide), fA 7 (by decide), fA 67 (by decide), fA 70 (by decide)]
      exact k11
    · unfold I_gh kd_1 kd_2 inp undw at k13 ⊢
      rw [vl, vw, est, fA 55 (by decide), fA 68 (by decide), fA 67 (by decide), fA 69 (by decide), fA 70 (by decide)]
      exact k13
    · rw [ace.2.2.1] at hkk
      obtain ⟨x, x1, x2, x3, x4, x5, x6, x9, w, w4, x7, x8⟩ := k12 u u1 u2 ((un u).mp hu) p i hp hkk
      obtain ⟨u0, _, w0, c1, c2, c3, _, _, _, _, _, c9, g1, g2, _⟩ := k5 x x1
      have eu : u0 = u := by rw [x2, i_eq (by omega) (by omega)] at c1; exact c1.symm
      have ew : w0 = w := by rw [x7, i_eq (by omega) (by omega)] at c9; exact c9.symm
      subst eu
      subst ew
      refine ⟨x, by rw [vl]; exact x1, x2, by rw [ace.2.1]; exact x3, x4, by rw [ace.2.2.1]; exact x5, by rw [ace.2.2.2.1]; exact x6, x9, w0, w4, x7, fun w1 => ?_⟩
      rw [eB]
      have n5 : 5 * u0 + w0 ≠ 5 * t + (v + 1) := fun e => by
        have ut : u0 = t := by omega
        have := (lev u0 w0 g1 g2).1 ut
        omega
      rw [up_n n5]
      exact x8 w1
  · unfold I_po at hP ⊢
    rw [lve, est, fF, fA 52 (by decide), fA 55 (by decide), fA 71 (by decide)]
    exact hP
  · obtain ⟨o', k', c1, c2, c3, c4, c5⟩ := hX u u1 u2 (by unfold inp at hin ⊢; rw [est] at hin; exact hin)
    exact ⟨o', k', by rw [fA _ (by decide)]; exact c1, c2, by rw [fA _ (by decide)]; exact c3, c4, by rw [fA 69 (by decide), fA 70 (by decide)]; exact c5⟩
/-- the ints with one level more -/
def P_n (P : k_P) (d v : Nat) : k_P := k_mkL (k_wr P 45 d (P.1 45 d + 1)) d (v + 1)
theorem K_nest (hI : I_all n b l nl nw nr na ne ch 0 c T S) (hK : K_all N own n b l nl nw nr ne ch 0 Z P U r S) (h1 : 1 ≤ t) (h2 : t ≤ b) (st : S.2 47 t = 1) (ev : S.2 51 t = nI v) (hv : v < 4) (hs : lvl_up t v S S') : K_all N own n b l nl nw nr ne ch 0 Z (P_n P (dl U own t) v) U r S' := by
  have hI0 := hI
  obtain ⟨hL, hD, hE, hLk, hV, hM, hP, hX⟩ := hI
  have hK0 := hK
  obtain ⟨E, kLg, ⟨hs1, hS⟩, ⟨hs5, hS5⟩, kDe, kEn, kAs, kLk, kVe, kMi⟩ := hK
  obtain ⟨fF, fA, eL, eB⟩ := hs
  have est := fA 47 (by decide)
  obtain ⟨td, ta, tb⟩ := dl_t E kDe.1 h1 h2
  have fP : ∀ f y, f ∉ [45] → (P_n P (dl U own t) v).1 f y = P.1 f y := fun f y h => by
    unfold P_n k_mkL
    rw [k_a1, k_rn (fun e => h (by rw [e]; exact List.mem_singleton.mpr rfl))]
  have p1 : (P_n P (dl U own t) v).1 45 (dl U own t) = P.1 45 (dl U own t) + 1 := by
    unfold P_n k_mkL; rw [k_a1, k_rs]
  have p1n : ∀ y, y ≠ dl U own t → (P_n P (dl U own t) v).1 45 y = P.1 45 y := fun y hy => by
    unfold P_n k_mkL; rw [k_a1, k_ra hy]
  have p2 : ∀ y, y ≠ dl U own t + 2 → (P_n P (dl U own t) v).2 y = P.2 y := fun y hy => by
    unfold P_n k_mkL; rw [k_an hy]; rfl
  have p2s : (P_n P (dl U own t) v).2 (dl U own t + 2) = va_up (P.2 (dl U own t + 2)) (v + 1) (P.1 46 (dl U own t)) := by
    unfold P_n k_mkL; rw [k_as, k_rn (by decide)]; rfl
  generalize P_n P (dl U own t) v = P' at *
  have dne : ∀ u, 1 ≤ u → u ≤ b → u ≠ t → dl U own u ≠ dl U own t := fun u u1 u2 hne e => hne (dl_inj kDe.1 kDe.2.1 u1 u2 h1 h2 e)
  obtain ⟨q1, q2, q3, q4, q5⟩ := K_four (S1 := S') (har_of hI0) hK0 (X := [45]) (by decide) fP (fun y hy => p2 y (fun e => hy (by rw [e]; exact tb))) (fun f hf => fA f (by revert f; decide))
  have lve : v_lv l S'.2 = v_lv l S.2 := by unfold v_lv; rw [fA _ (by decide)]
  refine ⟨E, q1, q2, q3, ?_, q4, ?_, ?_, q5, ?_⟩
  · refine kDe.cg rfl rfl (Nat.le_refl _) lve (fun u hu => ⟨((hD.2.2.2.2.2.2.2.2.1 u).mp hu).1, ((hD.2.2.2.2.2.2.2.2.1 u).mp hu).2.1⟩) (fun u u1 u2 f hf => fP f _ (by revert f; decide)) (prs_1 kDe (f0 := 45) (A0 := 51) (by decide) h1 h2 (fun u u1 u2 f hf hm => ?_) (fun f u hf hm => ?_) ?_) (fun u u1 u2 w w1 w2 w3 => ?_) (fun u u1 u2 hus => ⟨⟨by unfold undw at hus ⊢; rw [est] at hus; exact hus, fun z => by unfold undw at z ⊢; rw [est] at z; exact z⟩, fun j hj => Or.inl ⟨hj, by unfold ar; rw [fA _ (by decide)]⟩⟩)
    · by_cases c : f = 45
      · rw [c]; exact p1n _ (dne u u1 u2 (hf.resolve_left (fun h => h c)))
      · exact fP f _ (fun z => c (List.mem_singleton.mp z))
    · by_cases c : f = 51
      · rw [c, eL, up_n (hf.resolve_left (fun h => h c))]
      · rw [fA f (by clear hf; revert f; decide)]
    · rw [p1, eL, up_s, (kDe.2.2.1 t h1 h2).2.2.2.2.2.1, ev, i_a1]
    · by_cases c : u = t
      · subst c
        rw [eL, up_s, i_le (by omega) (by omega)] at w2
        rw [p2s, eB]
        by_cases cw : w = v + 1
        · rw [cw, up_s, up_s]
          exact (kDe.2.2.1 u h1 h2).2.2.2.2.2.2.1
        · rw [up_n cw, up_n (by omega)]
          exact kDe.2.2.2.1 u u1 u2 w w1 (by rw [ev, i_le (by omega) (by omega)]; omega) w3
      · rw [eL, up_n c] at w2
        rw [p2 _ (fun e => dne u u1 u2 c (by omega)), eB, up_n (by omega)]
        exact kDe.2.2.2.1 u u1 u2 w w1 w2 w3
  · exact kAs.cg rfl (fun u u1 u2 hin => ⟨by unfold inp at hin ⊢; rw [est] at hin; exact hin, fun f hf => fP f _ (by revert f; decide), fun f hf => by rw [fA f (by revert f; decide)]⟩) (fA _ (by decide))
  · exact kLk.cgP (fun f hf => fA f (by revert f; decide)) (fun u u1 u2 s2 => by rw [eL, up_n (fun e => by rw [e, st] at s2; exact absurd s2 (by decide))]) (fun f hf y => fP f y (by revert f; decide))
  · refine kMi.cg (fun p hp => Or.inl ⟨fP _ _ (by revert p; decide), by rw [fF]⟩) (fP _ _ (by decide)) (by rw [fF]) (by rw [fF]) (p2 _ (fun e => ?_)) (fA _ (by decide)) ?_
    · have := (E.1.rng (E.1.hse E.2.1).2.2.2.2.2.2.2.2.1).2.2.2.2
      rw [show own + 19 + 5 = own + 24 from rfl, e, tb] at this
      exact absurd this (by decide)
    · rw [fF, fA _ (by decide), p2 _ (fun e => ?_)]
      · exact (mi_iff.mp kMi).2.2.2
      · have := (E.1.shf (E.1.hse E.2.1).1).2.2
        rw [show own + 1 + 3 = own + 4 from rfl, e, tb] at this
        exact absurd this (by decide)
theorem t_nest (hg : e_GK g) (hA : e_AK g) {t : Int32} : TW g own r0 91 191 [.int t] := by
  intro c Z P U r S B Ψ hc hV q
  have hV0 := hV
  obtain ⟨N, n, b, l, nl, nw, nr, na, ne, ch, T, hI, hK, hR⟩ := hV
  have b400 := hI.2.1.1
  have tO := hK.1.2.1
  have kDe := hK.2.2.2.2.1
  have hb : S.1 44 = nI b := hI.2.1.2.1
  have hlv : ∀ j, 1 ≤ j → j ≤ b → ∃ v, v ≤ 4 ∧ S.2 51 j = nI v := fun j j1 j2 => by
    obtain ⟨_, lv, _, _, _, _, _, a4, a5, _⟩ := hI.2.1.2.2.1 j j1 j2
    exact ⟨lv, a5, a4⟩
  have fin : ∀ S' y, y_nest t S = (y, S') → ∀ Z' P' U' r', V own (c + 1) r0 Z' P' U' r' S' → Ψ (some (.int y)) (K_H Z' P' U' (B, r')) := fun S' y e Z' P' U' r' hV' => q y Z' P' U' r' S' hV' (fun M h Φ hq => c_nest hg b400 hb hlv (by rw [show ((S.1, S.2) : m_S) = S from rfl, e]; exact hq))
  refine e_call (cd := cd91) hg ok91 (by rw [mL91]; exact Nat.le_of_ble_eq_true rfl) ?_
  rw [mL91]
  simp only [x_ini, x_inr, x_inn, x_inq, x_inl, x_in0, x_rp0, x_rps, Nat.reduceSub]
  simp (decide := true) (disch := first | assumption | omega) only [↓u91_0, ↓u91_12, ↓u91_23, ↓u91_34, ↓x_nil, ↓x_om, ↓x_aload_0r, ↓x_aload_0n, ↓x_aload_0q, ↓x_iload_1, ↓x_invokevirtual, mt_12_121, x_ps0, x_ps1, x_l40, x_l41, x_l42, x_l43, x_l44, ↓x_cv1, ↓x_astore_2r, ↓x_astore_2n, ↓x_astore_2q, x_cl_i, x_cl_r, x_cl_n, x_cl_q, x_cl_0, x_cl_l, ↓x_aload_2r, ↓x_aload_2n, ↓x_aload_2q, ↓x_ifnonnull_n, ↓x_ifnonnull_r, ↓x_ifnonnull_q, ↓x_iconst_m1, ↓x_ireturn, rt91, ↓x_getfield, ft_12_125, ↓x_iconst_1, ↓x_icmp_eq, ↓x_bipush_m2, ft_12_130, ↓x_iconst_4, ↓x_icmp_lt, ↓x_bipush_m3, ↓x_dup_i, ↓x_dup_r, ↓x_dup_n, ↓x_iadd, ↓x_putfield, x_fit0, x_fit1, x_fit2r, x_fit2n, x_fit2q, mt_12_133, ↓x_cv0, Int.reduceAdd, Nat.reduceAdd, true_and, and_true, true_or, or_true, false_or, or_false, reduceCtorEq, false_and, and_false, and_self, or_self, false_implies, true_implies, not_true_eq_false, not_false_eq_true, implies_true, Option.some.injEq, ki12, kg2, kv2_3, kv2_5, kw2_5, k_rs, k_rn, k_r2, k_c2, ki2, up_s, up_n]
  refine h_dealOf hg hA hK.1.1 tO (by rw [kDe.1]; omega) ?_
  rcases dO_ok kDe.1 b400 t with ⟨e, hi⟩ | ⟨j, j1, j2, et, e, hi⟩
  · rw [e, k_rfn]
    simp (decide := true) (disch := first | assumption | omega) only [↓u91_0, ↓u91_12, ↓u91_23, ↓u91_34, ↓x_nil, ↓x_om, ↓x_aload_0r, ↓x_aload_0n, ↓x_aload_0q, ↓x_iload_1, ↓x_invokevirtual, mt_12_121, x_ps0, x_ps1, x_l40, x_l41, x_l42, x_l43, x_l44, ↓x_cv1, ↓x_astore_2r, ↓x_astore_2n, ↓x_astore_2q, x_cl_i, x_cl_r, x_cl_n, x_cl_q, x_cl_0, x_cl_l, ↓x_aload_2r, ↓x_aload_2n, ↓x_aload_2q, ↓x_ifnonnull_n, ↓x_ifnonnull_r, ↓x_ifnonnull_q, ↓x_iconst_m1, ↓x_ireturn, rt91, ↓x_getfield, ft_12_125, ↓x_iconst_1, ↓x_icmp_eq, ↓x_bipush_m2, ft_12_130, ↓x_iconst_4, ↓x_icmp_lt, ↓x_bipush_m3, ↓x_dup_i, ↓x_dup_r, ↓x_dup_n, ↓x_iadd, ↓x_putfield, x_fit0, x_fit1, x_fit2r, x_fit2n, x_fit2q, mt_12_133, ↓x_cv0, Int.reduceAdd, Nat.reduceAdd, true_and, and_true, true_or, or_true, false_or, or_false, reduceCtorEq, false_and, and_false, and_self, or_self, false_implies, true_implies, not_true_eq_false, not_false_eq_true, implies_true, Option.some.injEq, ki12, kg2, kv2_3, kv2_5, kw2_5, k_rs, k_rn, k_r2, k_c2, ki2, up_s, up_n]
    exact fin S (-1) (by unfold y_nest; rw [hb, hi, if_neg (by decide)]) Z P U r (hV0.next hc)
  · obtain ⟨td, ta, tb⟩ := dl_t hK.1 kDe.1 j1 j2
    have e1 := (kDe.2.2.1 j j1 j2).2.2.2.1
    obtain ⟨v, hv, ev⟩ := hlv j j1 j2
    have e2 : P.1 45 (dl U own j) = nI v := ((kDe.2.2.1 j j1 j2).2.2.2.2.2.1).trans ev
    have yn : y_nest t S = if S.2 47 j = 1 then (if nI v = 4 then (-3, S) else (nI (v + 1), S.1, va_up (va_up S.2 51 (va_up (S.2 51) j (nI (v + 1)))) 54 (va_up (S.2 54) (5 * j + (v + 1)) (S.2 52 j)))) else (-2, S) := by
      unfold y_nest
      rw [hb, hi, if_pos rfl, et, i_cl (by omega), ev, i_a1, i_cl (by omega)]
    rw [e, k_rfs]
    simp (decide := true) (disch := first | assumption | omega) only [↓u91_0, ↓u91_12, ↓x_nil, ↓x_om, ↓x_aload_0r, ↓x_aload_0n, ↓x_aload_0q, ↓x_iload_1, ↓x_invokevirtual, mt_12_121, x_ps0, x_ps1, x_l40, x_l41, x_l42, x_l43, x_l44, ↓x_cv1, ↓x_astore_2r, ↓x_astore_2n, ↓x_astore_2q, x_cl_i, x_cl_r, x_cl_n, x_cl_q, x_cl_0, x_cl_l, ↓x_aload_2r, ↓x_aload_2n, ↓x_aload_2q, ↓x_ifnonnull_n, ↓x_ifnonnull_r, ↓x_ifnonnull_q, ↓x_iconst_m1, ↓x_ireturn, rt91, ↓x_getfield, ft_12_125, ↓x_iconst_1, ↓x_icmp_eq, ↓x_bipush_m2, ft_12_130, ↓x_iconst_4, ↓x_icmp_lt, ↓x_bipush_m3, ↓x_dup_i, ↓x_dup_r, ↓x_dup_n, ↓x_iadd, ↓x_putfield, x_fit0, x_fit1, x_fit2r, x_fit2n, x_fit2q, mt_12_133, ↓x_cv0, Int.reduceAdd, Nat.reduceAdd, true_and, and_true, true_or, or_true, false_or, or_false, reduceCtorEq, false_and, and_false, and_self, or_self, false_implies, true_implies, not_true_eq_false, not_false_eq_true, implies_true, Option.some.injEq, e1, ki12, kg2, kv2_3, kv2_5, kw2_5, k_rs, k_rn, k_r2, k_c2, ki2, up_s, up_n]
    refine ⟨fun st => ?_, fun st => fin S (-2) (by rw [yn, if_neg st]) Z P U r (hV0.next hc)⟩
    rw [u91_23]
    simp (decide := true) (disch := first | assumption | omega) only [↓u91_0, ↓u91_12, ↓u91_23, ↓x_nil, ↓x_om, ↓x_aload_0r, ↓x_aload_0n, ↓x_aload_0q, ↓x_iload_1, ↓x_invokevirtual, mt_12_121, x_ps0, x_ps1, x_l40, x_l41, x_l42, x_l43, x_l44, ↓x_cv1, ↓x_astore_2r, ↓x_astore_2n, ↓x_astore_2q, x_cl_i, x_cl_r, x_cl_n, x_cl_q, x_cl_0, x_cl_l, ↓x_aload_2r, ↓x_aload_2n, ↓x_aload_2q, ↓x_ifnonnull_n, ↓x_ifnonnull_r, ↓x_ifnonnull_q, ↓x_iconst_m1, ↓x_ireturn, rt91, ↓x_getfield, ft_12_125, ↓x_iconst_1, ↓x_icmp_eq, ↓x_bipush_m2, ft_12_130, ↓x_iconst_4, ↓x_icmp_lt, ↓x_bipush_m3, ↓x_dup_i, ↓x_dup_r, ↓x_dup_n, ↓x_iadd, ↓x_putfield, x_fit0, x_fit1, x_fit2r, x_fit2n, x_fit2q, mt_12_133, ↓x_cv0, Int.reduceAdd, Nat.reduceAdd, true_and, and_true, true_or, or_true, false_or, or_false, reduceCtorEq, false_and, and_false, and_self, or_self, false_implies, true_implies, not_true_eq_false, not_false_eq_true, implies_true, Option.some.injEq, i_add, i_a1, i_m8, i_m5, i_m401, i_40, i_80, i_r40, i_s1, i_am1, i_sub, i_lt, i_le, i_eq, i_m1, il_le_0, il_ge_0, il_lt_0, il_gt_0, il_eq_0, il_le_1, il_ge_1, il_lt_1, il_gt_1, il_eq_1, il_le_2, il_ge_2, il_lt_2, il_gt_2, il_eq_2, il_le_3, il_ge_3, il_lt_3, il_gt_3, il_eq_3, il_le_4, il_ge_4, il_lt_4, il_gt_4, il_eq_4, il_le_5, il_ge_5, il_lt_5, il_gt_5, il_eq_5, il_le_6, il_ge_6, il_lt_6, il_gt_6, il_eq_6, il_le_7, il_ge_7, il_lt_7, il_gt_7, il_eq_7, il_le_8, il_ge_8, il_lt_8, il_gt_8, il_eq_8, il_le_12, il_ge_12, il_lt_12, il_gt_12, il_eq_12, il_le_16, il_ge_16, il_lt_16, il_gt_16, il_eq_16, il_le_20, il_ge_20, il_lt_20, il_gt_20, il_eq_20, il_le_21, il_ge_21, il_lt_21, il_gt_21, il_eq_21, il_le_40, il_ge_40, il_lt_40, il_gt_40, il_eq_40, il_le_100, il_ge_100, il_lt_100, il_gt_100, il_eq_100, il_le_120, il_ge_120, il_lt_120, il_gt_120, il_eq_120, il_le_200, il_ge_200, il_lt_200, il_gt_200, il_eq_200, il_le_400, il_ge_400, il_lt_400, il_gt_400, il_eq_400, il_le_700, il_ge_700, il_lt_700, il_gt_700, il_eq_700, e2, ki12, kg2, kv2_3, kv2_5, kw2_5, k_rs, k_rn, k_r2, k_c2, ki2, up_s, up_n]
    refine ⟨fun c4 => ?_, fun c4 => ?_⟩
    · have v4 : v < 4 := c4
      have n4 : ¬ nI v = 4 := fun z => by rw [show (4 : Int32) = nI 4 from rfl, i_eq (by omega) (by omega)] at z; omega
      have hs : lvl_up j v S (S.1, va_up (va_up S.2 51 (va_up (S.2 51) j (nI (v + 1)))) 54 (va_up (S.2 54) (5 * j + (v + 1)) (S.2 52 j))) := by
        refine ⟨rfl, fun f hf => ?_, ?_, ?_⟩
        · dsimp only; rw [up_n (nmem hf (by decide)), up_n (nmem hf (by decide))]
        · dsimp only; rw [up_n (by decide), up_s]
        · dsimp only; rw [up_s]
      have eL : (k_wr P 45 (dl U own j) (P.1 45 (dl U own j) + 1)).1 45 (dl U own j) = nI (v + 1) := by rw [k_rs, e2, i_a1]
      have eR : (k_mkL (k_wr P 45 (dl U own j) (P.1 45 (dl U own j) + 1)) (dl U own j) (v + 1)).1 45 (dl U own j) = nI (v + 1) := by unfold k_mkL; rw [k_a1]; exact eL
      rw [u91_34]
      simp (decide := true) (disch := first | assumption | omega) only [↓u91_0, ↓u91_12, ↓u91_23, ↓u91_34, ↓x_nil, ↓x_om, ↓x_aload_0r, ↓x_aload_0n, ↓x_aload_0q, ↓x_iload_1, ↓x_invokevirtual, mt_12_121, x_ps0, x_ps1, x_l40, x_l41, x_l42, x_l43, x_l44, ↓x_cv1, ↓x_astore_2r, ↓x_astore_2n, ↓x_astore_2q, x_cl_i, x_cl_r, x_cl_n, x_cl_q, x_cl_0, x_cl_l, ↓x_aload_2r, ↓x_aload_2n, ↓x_aload_2q, ↓x_ifnonnull_n, ↓x_ifnonnull_r, ↓x_ifnonnull_q, ↓x_iconst_m1, ↓x_ireturn, rt91, ↓x_getfield, ft_12_125, ↓x_iconst_1, ↓x_icmp_eq, ↓x_bipush_m2, ft_12_130, ↓x_iconst_4, ↓x_icmp_lt, ↓x_bipush_m3, ↓x_dup_i, ↓x_dup_r, ↓x_dup_n, ↓x_iadd, ↓x_putfield, x_fit0, x_fit1, x_fit2r, x_fit2n, x_fit2q, mt_12_133, ↓x_cv0, Int.reduceAdd, Nat.reduceAdd, true_and, and_true, true_or, or_true, false_or, or_false, reduceCtorEq, false_and, and_false, and_self, or_self, false_implies, true_implies, not_true_eq_false, not_false_eq_true, implies_true, Option.some.injEq, ki12, kg2, kv2_3, kv2_5, kw2_5, k_rs, k_rn, k_r2, k_c2, ki2, up_s, up_n]
      refine h_markLevel hg (l := v + 1) (by omega) eL td tb ?_
      simp (decide := true) (disch := first | assumption | omega) only [↓u91_0, ↓u91_12, ↓u91_23, ↓u91_34, ↓x_nil, ↓x_om, ↓x_aload_0r, ↓x_aload_0n, ↓x_aload_0q, ↓x_iload_1, ↓x_invokevirtual, mt_12_121, x_ps0, x_ps1, x_l40, x_l41, x_l42, x_l43, x_l44, ↓x_cv1, ↓x_astore_2r, ↓x_astore_2n, ↓x_astore_2q, x_cl_i, x_cl_r, x_cl_n, x_cl_q, x_cl_0, x_cl_l, ↓x_aload_2r, ↓x_aload_2n, ↓x_aload_2q, ↓x_ifnonnull_n, ↓x_ifnonnull_r, ↓x_ifnonnull_q, ↓x_iconst_m1, ↓x_ireturn, rt91, ↓x_getfield, ft_12_125, ↓x_iconst_1, ↓x_icmp_eq, ↓x_bipush_m2, ft_12_130, ↓x_iconst_4, ↓x_icmp_lt, ↓x_bipush_m3, ↓x_dup_i, ↓x_dup_r, ↓x_dup_n, ↓x_iadd, ↓x_putfield, x_fit0, x_fit1, x_fit2r, x_fit2n, x_fit2q, mt_12_133, ↓x_cv0, Int.reduceAdd, Nat.reduceAdd, true_and, and_true, true_or, or_true, false_or, or_false, reduceCtorEq, false_and, and_false, and_self, or_self, false_implies, true_implies, not_true_eq_false, not_false_eq_true, implies_true, Option.some.injEq, eR, ki12, kg2, kv2_3, kv2_5, kw2_5, k_rs, k_rn, k_r2, k_c2, ki2, up_s, up_n]
      exact fin _ (nI (v + 1)) (by rw [yn, if_pos st, if_neg n4]) Z _ U r ⟨N, n, b, l, nl, nw, nr, na, ne, ch, T, (I_nest hI j1 j2 st ev v4 hs).next hc, K_nest hI hK j1 j2 st ev v4 hs, hR.next⟩
    · have v4 : v = 4 := by omega
      exact fin S (-3) (by rw [yn, if_pos st, v4, if_pos (by rfl)]) Z P U r (hV0.next hc)
end TX
