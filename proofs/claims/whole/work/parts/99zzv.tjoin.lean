/-! join -/
section UY
variable {g : e_G} {Ψ : e_Q} {B : Nat → Option e_Cl} {Z : k_Z} {P P' : k_P} {U : k_U} {r r0 : Nat × Nat} {S S' : m_S} {N own n b l nl nw nr na ne c T t v : Nat} {ch : Nat → List Nat}
/-- levels of locks of the first o objects lowered -/
def Lo (Z : k_Z) (U : k_U) (own d v o : Nat) (P P' : k_P) : Prop := P'.2 = P.2 ∧ ∀ f a, (f = 66 ∧ (∃ o', o' < o ∧ a ∈ k_hl U own o') ∧ Z.2.2 a = d ∧ P.1 66 a = nI (v + 1) → P'.1 f a = nI v) ∧ (¬ (f = 66 ∧ (∃ o', o' < o ∧ a ∈ k_hl U own o') ∧ Z.2.2 a = d ∧ P.1 66 a = nI (v + 1)) → P'.1 f a = P.1 f a)
theorem Lo.step {d o : Nat} (h : Lo Z U own d v o P P') (hd : P.1 45 d = nI (v + 1)) (hv : v < 4) : Lo Z U own d v (o + 1) P (k_low Z P' (k_hl U own o) d) := by
  obtain ⟨h1, h2⟩ := h
  have hd' : P'.1 45 d = nI (v + 1) := by rw [(h2 _ _).2 (fun z => absurd z.1 (by decide))]; exact hd
  have ne : ¬ nI v = nI (v + 1) := by rw [i_eq (by omega) (by omega)]; omega
  refine ⟨h1, fun f a => ⟨fun ⟨c1, ⟨o', o1, o2⟩, c3, c4⟩ => ?_, fun hn => ?_⟩⟩
  · subst c1
    by_cases c5 : ∃ o', o' < o ∧ a ∈ k_hl U own o'
    · have e1 := (h2 66 a).1 ⟨rfl, c5, c3, c4⟩
      rw [k_lowN (fun z => by rw [e1, hd'] at z; exact ne z.2.2.2)]
      exact e1
    · have eo : o' = o := by
        by_cases cc : o' < o
        · exact absurd ⟨o', cc, o2⟩ c5
        · omega
      subst eo
      have e1 := (h2 66 a).2 (fun z => c5 z.2.1)
      rw [k_lowP ⟨o2, c3, by rw [e1, hd']; exact c4⟩, e1, c4, i_s1 (by omega)]
      rfl
  · rw [k_lowN ?_]
    · exact (h2 f a).2 (fun z => hn ⟨z.1, by obtain ⟨o', o1, o2⟩ := z.2.1; exact ⟨o', by omega, o2⟩, z.2.2⟩)
    · rintro ⟨c1, c2, c3, c4⟩
      subst c1
      have nn : ¬ ((66 : Nat) = 66 ∧ (∃ o', o' < o ∧ a ∈ k_hl U own o') ∧ Z.2.2 a = d ∧ P.1 66 a = nI (v + 1)) := fun z => hn ⟨rfl, by obtain ⟨o', o1, o2⟩ := z.2.1; exact ⟨o', by omega, o2⟩, z.2.2⟩
      have e1 := (h2 66 a).2 nn
      rw [e1, hd'] at c4
      exact hn ⟨rfl, ⟨o, by omega, c2⟩, c3, c4⟩
theorem K_low (har : ∀ u, 1 ≤ u → u ≤ b → undw S.2 u ∨ S.2 47 u = 3 → ∀ i ∈ ch u, ar S.2 i < nr) (lvm : ∀ u ∈ v_lv l S.2, 1 ≤ u ∧ u ≤ b) (hK : K_all N own n b l nl nw nr ne ch 0 Z P U r S) (h1 : 1 ≤ t) (h2 : t ≤ b) (hb : b ≤ 400) (st : S.2 47 t = 1) (eF : S'.1 = S.1) (eA : ∀ f, f ≠ 78 → S'.2 f = S.2 f) (vL : v_L nl S'.2 = (v_L nl S.2).map (lw t v)) (hL : Lo Z U own (dl U own t) v n P P') : K_all N own n b l nl nw nr ne ch 0 Z P' U r S' := by
  have hK0 := hK
  obtain ⟨E, kLg, ⟨hs1, hS⟩, ⟨hs5, hS5⟩, kDe, kEn, kAs, kLk, kVe, kMi⟩ := hK
  have est := eA 47 (by decide)
  obtain ⟨p2, pL⟩ := hL
  have fP : ∀ f y, f ∉ [66] → P'.1 f y = P.1 f y := fun f y h => (pL f y).2 (fun z => h (by rw [z.1]; exact List.mem_singleton.mpr rfl))
  obtain ⟨q1, q2, q3, q4, q5⟩ := K_four (S1 := S') har hK0 (X := [66]) (by decide) fP (fun y hy => by rw [p2]) (fun f hf => eA f (by clear eA fP; revert f; decide))
  have lve : v_lv l S'.2 = v_lv l S.2 := by unfold v_lv; rw [eA _ (by decide)]
  have num : ∀ u, 1 ≤ u → u ≤ b → P.1 40 (dl U own u) = nI u := fun u u1 u2 => (kDe.2.2.1 u u1 u2).1
  refine ⟨E, q1, q2, q3, ?_, q4, ?_, ?_, q5, ?_⟩
  · refine kDe.cg rfl rfl (Nat.le_refl _) lve lvm (fun u u1 u2 f hf => fP f _ (by clear eA fP; revert f; decide)) (fun u u1 u2 p hp => by rw [fP _ _ (by clear eA fP; revert p; decide), eA p.2 (by clear eA fP; revert p; decide)]; exact kDe.p u1 u2 p hp) (fun u u1 u2 x w1 w2 w3 => ?_) (fun u u1 u2 hus => ⟨⟨by unfold undw at hus ⊢; rw [est] at hus; exact hus, fun z => by unfold undw at z ⊢; rw [est] at z; exact z⟩, fun j hj => Or.inl ⟨hj, by unfold ar; rw [eA _ (by decide)]⟩⟩)
    rw [eA _ (by decide)] at w2
    rw [p2, eA _ (by decide)]
    exact kDe.2.2.2.1 u u1 u2 x w1 w2 w3
  · exact kAs.cg rfl (fun u u1 u2 hin => ⟨by unfold inp at hin ⊢; rw [est] at hin; exact hin, fun f hf => fP f _ (by clear eA fP; revert f; decide), fun f hf => by rw [eA f (by clear eA fP; revert f; decide)]⟩) (eA _ (by decide))
  · have vw : v_W nw S'.2 = v_W nw S.2 := v_W_cg (fun f hf => eA f (by clear eA fP; revert f; decide))
    obtain ⟨g1, g2, g3, g4, g5, g6⟩ := kLk
    have eW : WV Z P' = WV Z P := funext fun y => by
      unfold WV
      rw [fP _ _ (by decide), fP _ _ (by decide), fP _ _ (by decide), fP _ _ (by decide), fP _ _ (by decide), fP _ _ (by decide)]
    have eL : ∀ o, o < n → ∀ y ∈ k_hl U own o, LV Z P' own y = lw t v (LV Z P own y) := fun o ho y hy => by
      obtain ⟨u, qa, u1, u2, u3, u4, _⟩ := g3 o ho y hy
      unfold LV lw
      dsimp only
      rw [fP 40 _ (by decide), fP 61 _ (by decide), fP 62 _ (by decide), fP 63 _ (by decide), fP 64 _ (by decide), fP 65 _ (by decide), fP 47 _ (by decide), fP 43 _ (by decide)]
      have ei : (P.1 40 (Z.2.2 y) = nI t) = (Z.2.2 y = dl U own t) := by
        rw [u4, num u u1 u2, i_eq (by omega) (by omega)]
        exact propext ⟨fun z => by rw [z], fun z => dl_inj kDe.1 kDe.2.1 u1 u2 h1 h2 z⟩
      by_cases cc : P.1 40 (Z.2.2 y) = nI t ∧ P.1 66 y = nI (v + 1)
      · rw [if_pos cc, (pL 66 y).1 ⟨rfl, ⟨o, ho, hy⟩, by rw [← ei]; exact cc.1, cc.2⟩]
      · rw [if_neg cc, (pL 66 y).2 (fun z => cc ⟨by rw [ei]; exact z.2.2.1, z.2.2.2⟩)]
    refine ⟨g1, fun o ho => ⟨?_, ?_, ?_⟩, fun o ho y hy => ?_, fun o ho y hy => ?_, g5, fun u u1 u2 => ?_⟩
    · have := (g2 o ho).1
      rw [if_pos rfl] at this ⊢
      rw [vL]
      have e1 : (k_hl U own o).map (LV Z P' own) = ((k_hl U own o).map (LV Z P own)).map (lw t v) := by
        rw [List.map_map]
        exact List.map_congr_left (fun y hy => eL o ho y hy)
      rw [e1, this]
      unfold v_LO
      rw [List.filter_map, List.map_map, List.map_map]
      rfl
    · rw [eW, vw]; exact (g2 o ho).2.1
    · rw [fP _ _ (by decide), eA _ (by decide)]; exact (g2 o ho).2.2
    · rw [fP _ _ (by decide)]
      obtain ⟨u, q, c1, c2, c3, c4, c5, c6⟩ := g3 o ho y hy
      exact ⟨u, q, c1, c2, by unfold undw at c3 ⊢; rw [est]; exact c3, c4, c5, by rw [eA _ (by decide)]; exact c6⟩
    · obtain ⟨u, c1, c2, c3, c4, c5, c6, c7⟩ := g4 o ho y hy
      have ne : ¬ Z.2.2 y = dl U own t := fun z => by
        have := dl_inj kDe.1 kDe.2.1 c1 c2 h1 h2 (c4.symm.trans z)
        subst this
        rw [st] at c3
        exact absurd c3 (by decide)
      rw [(pL 66 y).2 (fun z => ne z.2.2.1), fP _ _ (by decide)]
      exact ⟨u, c1, c2, by rw [est]; exact c3, c4, c5, by rw [eA _ (by decide)]; exact c6, by rw [eA _ (by decide)]; exact c7⟩
    · obtain ⟨z1, z2⟩ := g6 u u1 u2
      rw [est]
      exact ⟨z1, fun y hy => by rw [fP _ _ (by decide)]; exact z2 y hy⟩
  · exact kMi.cg (fun p hp => Or.inl ⟨fP _ _ (by clear eA fP; revert p; decide), by rw [eF]⟩) (fP _ _ (by decide)) (by rw [eF]) (by rw [eF]) (by rw [p2]) (eA _ (by decide)) (by rw [eF, eA _ (by decide), p2]; exact (mi_iff.mp kMi).2.2.2)
theorem t_join (hg : e_GK g) (hA : e_AK g) {t : Int32} : TW g own r0 92 192 [.int t] := by
  intro c Z P U r S B Ψ hc hV q
  have hV0 := hV
  obtain ⟨N, n, b, l, nl, nw, nr, na, ne, ch, T, hI, hK, hR⟩ := hV
  have b400 := hI.2.1.1
  have tO := hK.1.2.1
  have kDe := hK.2.2.2.2.1
  have hb : S.1 44 = nI b := hI.2.1.2.1
  have n40 := hI.1.2.2.1.1
  obtain ⟨n1, n2⟩ := nl_le hI.2.1 hI.2.2.2.1 n40 hI.2.2.2.2.2.2.1
  have fin : ∀ S' y, y_join t nl (S.1, S.2) = (y, S') → ∀ Z' P' U' r', V own (c + 1) r0 Z' P' U' r' S' → Ψ (some (.int y)) (K_H Z' P' U' (B, r')) := fun S' y e Z' P' U' r' hV' => q y Z' P' U' r' S' hV' (fun M h Φ hq => c_join hg b400 (by omega) hb hI.2.2.2.1.1 (by rw [e]; exact hq))
  refine e_call (cd := cd92) hg ok92 (by rw [mL92]; exact Nat.le_of_ble_eq_true rfl) ?_
  rw [mL92]
  simp only [x_ini, x_inr, x_inn, x_inq, x_inl, x_in0, x_rp0, x_rps, Nat.reduceSub]
  simp (decide := true) (disch := first | assumption | omega) only [↓u92_0, ↓u92_12, ↓u92_27, ↓u92_61, ↓x_nil, ↓x_om, ↓x_aload_0r, ↓x_aload_0n, ↓x_aload_0q, ↓x_iload_1, ↓x_invokevirtual, mt_12_121, x_ps0, x_ps1, x_l40, x_l41, x_l42, x_l43, x_l44, ↓x_cv1, ↓x_astore_2r, ↓x_astore_2n, ↓x_astore_2q, x_cl_i, x_cl_r, x_cl_n, x_cl_q, x_cl_0, x_cl_l, ↓x_aload_2r, ↓x_aload_2n, ↓x_aload_2q, ↓x_ifnonnull_n, ↓x_ifnonnull_r, ↓x_ifnonnull_q, ↓x_iconst_m1, ↓x_ireturn, rt92, ↓x_getfield, ft_12_125, ↓x_iconst_1, ↓x_icmp_ne, ft_12_130, ↓x_if_ne, ↓x_bipush_m2, ↓x_iconst_0, ↓x_istore_3, ↓x_iload_3, ft_12_12, ft_12_86, ↓x_icmp_ge, mt_12_136, ↓x_astore_4r, ↓x_astore_4n, ↓x_astore_4q, ↓x_aload_4r, ↓x_aload_4n, ↓x_aload_4q, ↓x_ifnull_n, ↓x_ifnull_r, ↓x_ifnull_q, mt_12_140, ↓x_iinc_3_1, ↓x_goto, ↓x_dup_i, ↓x_dup_r, ↓x_dup_n, ↓x_isub, ↓x_putfield, x_fit0, x_fit1, x_fit2r, x_fit2n, x_fit2q, Int.reduceAdd, Nat.reduceAdd, true_and, and_true, true_or, or_true, false_or, or_false, reduceCtorEq, false_and, and_false, and_self, or_self, false_implies, true_implies, not_true_eq_false, not_false_eq_true, implies_true, Option.some.injEq, ki12, kg2, kv2_3, kv2_5, kg12, kv12_0, kg8, kv8_1, ki9, kw2_5, k_rs, k_rn, k_r2, k_c2, up_s, up_n]
  refine h_dealOf hg hA hK.1.1 tO (by rw [kDe.1]; omega) ?_
  rcases dO_ok kDe.1 b400 t with ⟨e, hi⟩ | ⟨j, j1, j2, et, e, hi⟩
  · rw [e, k_rfn]
    simp (decide := true) (disch := first | assumption | omega) only [↓u92_0, ↓u92_12, ↓u92_27, ↓u92_61, ↓x_nil, ↓x_om, ↓x_aload_0r, ↓x_aload_0n, ↓x_aload_0q, ↓x_iload_1, ↓x_invokevirtual, mt_12_121, x_ps0, x_ps1, x_l40, x_l41, x_l42, x_l43, x_l44, ↓x_cv1, ↓x_astore_2r, ↓x_astore_2n, ↓x_astore_2q, x_cl_i, x_cl_r, x_cl_n, x_cl_q, x_cl_0, x_cl_l, ↓x_aload_2r, ↓x_aload_2n, ↓x_aload_2q, ↓x_ifnonnull_n, ↓x_ifnonnull_r, ↓x_ifnonnull_q, ↓x_iconst_m1, ↓x_ireturn, rt92, ↓x_getfield, ft_12_125, ↓x_iconst_1, ↓x_icmp_ne, ft_12_130, ↓x_if_ne, ↓x_bipush_m2, ↓x_iconst_0, ↓x_istore_3, ↓x_iload_3, ft_12_12, ft_12_86, ↓x_icmp_ge, mt_12_136, ↓x_astore_4r, ↓x_astore_4n, ↓x_astore_4q, ↓x_aload_4r, ↓x_aload_4n, ↓x_aload_4q, ↓x_ifnull_n, ↓x_ifnull_r, ↓x_ifnull_q, mt_12_140, ↓x_iinc_3_1, ↓x_goto, ↓x_dup_i, ↓x_dup_r, ↓x_dup_n, ↓x_isub, ↓x_putfield, x_fit0, x_fit1, x_fit2r, x_fit2n, x_fit2q, Int.reduceAdd, Nat.reduceAdd, true_and, and_true, true_or, or_true, false_or, or_false, reduceCtorEq, false_and, and_false, and_self, or_self, false_implies, true_implies, not_true_eq_false, not_false_eq_true, implies_true, Option.some.injEq, ki12, kg2, kv2_3, kv2_5, kg12, kv12_0, kg8, kv8_1, ki9, kw2_5, k_rs, k_rn, k_r2, k_c2, up_s, up_n]
    exact fin S (-1) (by unfold y_join; dsimp only; rw [hb, hi, if_neg (by decide)]) Z P U r (hV0.next hc)
  · obtain ⟨td, ta, tb⟩ := dl_t hK.1 kDe.1 j1 j2
    have dd := kDe.2.2.1 j j1 j2
    obtain ⟨sx, lv, m, xa, g1, g2, g3, g4, g5, g6, _⟩ := hI.2.1.2.2.1 j j1 j2
    have e1 := dd.2.2.2.1
    have e2 : P.1 45 (dl U own j) = nI lv := (dd.2.2.2.2.2.1).trans g4
    have hv : y_join t nl (S.1, S.2) = (if S.2 47 j = 1 ∧ ¬ S.2 51 j = 0 then (S.2 51 j - 1, S.1, va_up (va_up S.2 78 (y_jnR t (S.2 51 j) 0 nl (S.2 73) (S.2 78))) 51 (va_up (S.2 51) j (S.2 51 j - 1))) else (-2, S)) := by
      unfold y_join; dsimp only; rw [hb, hi, if_pos rfl, et, i_cl (by omega)]
    have no : ¬ (S.2 47 j = 1 ∧ ¬ S.2 51 j = 0) → Ψ (some (.int (-2))) (K_H Z P U (B, r)) := fun z => fin S (-2) (by rw [hv, if_neg z]) Z P U r (hV0.next hc)
    rw [e, k_rfs]
    simp (decide := true) (disch := first | assumption | omega) only [↓u92_0, ↓u92_12, ↓u92_27, ↓u92_61, ↓x_nil, ↓x_om, ↓x_aload_0r, ↓x_aload_0n, ↓x_aload_0q, ↓x_iload_1, ↓x_invokevirtual, mt_12_121, x_ps0, x_ps1, x_l40, x_l41, x_l42, x_l43, x_l44, ↓x_cv1, ↓x_astore_2r, ↓x_astore_2n, ↓x_astore_2q, x_cl_i, x_cl_r, x_cl_n, x_cl_q, x_cl_0, x_cl_l, ↓x_aload_2r, ↓x_aload_2n, ↓x_aload_2q, ↓x_ifnonnull_n, ↓x_ifnonnull_r, ↓x_ifnonnull_q, ↓x_iconst_m1, ↓x_ireturn, rt92, ↓x_getfield, ft_12_125, ↓x_iconst_1, ↓x_icmp_ne, ft_12_130, ↓x_if_ne, ↓x_bipush_m2, ↓x_iconst_0, ↓x_istore_3, ↓x_iload_3, ft_12_12, ft_12_86, ↓x_icmp_ge, mt_12_136, ↓x_astore_4r, ↓x_astore_4n, ↓x_astore_4q, ↓x_aload_4r, ↓x_aload_4n, ↓x_aload_4q, ↓x_ifnull_n, ↓x_ifnull_r, ↓x_ifnull_q, mt_12_140, ↓x_iinc_3_1, ↓x_goto, ↓x_dup_i, ↓x_dup_r, ↓x_dup_n, ↓x_isub, ↓x_putfield, x_fit0, x_fit1, x_fit2r, x_fit2n, x_fit2q, Int.reduceAdd, Nat.reduceAdd, true_and, and_true, true_or, or_true, false_or, or_false, reduceCtorEq, false_and, and_false, and_self, or_self, false_implies, true_implies, not_true_eq_false, not_false_eq_true, implies_true, Option.some.injEq, i_add, i_a1, i_m8, i_m5, i_m401, i_40, i_80, i_r40, i_s1, i_am1, i_sub, i_lt, i_le, i_eq, i_m1, il_le_0, il_ge_0, il_lt_0, il_gt_0, il_eq_0, il_le_1, il_ge_1, il_lt_1, il_gt_1, il_eq_1, il_le_2, il_ge_2, il_lt_2, il_gt_2, il_eq_2, il_le_3, il_ge_3, il_lt_3, il_gt_3, il_eq_3, il_le_4, il_ge_4, il_lt_4, il_gt_4, il_eq_4, il_le_5, il_ge_5, il_lt_5, il_gt_5, il_eq_5, il_le_6, il_ge_6, il_lt_6, il_gt_6, il_eq_6, il_le_7, il_ge_7, il_lt_7, il_gt_7, il_eq_7, il_le_8, il_ge_8, il_lt_8, il_gt_8, il_eq_8, il_le_12, il_ge_12, il_lt_12, il_gt_12, il_eq_12, il_le_16, il_ge_16, il_lt_16, il_gt_16, il_eq_16, il_le_20, il_ge_20, il_lt_20, il_gt_20, il_eq_20, il_le_21, il_ge_21, il_lt_21, il_gt_21, il_eq_21, il_le_40, il_ge_40, il_lt_40, il_gt_40, il_eq_40, il_le_100, il_ge_100, il_lt_100, il_gt_100, il_eq_100, il_le_120, il_ge_120, il_lt_120, il_gt_120, il_eq_120, il_le_200, il_ge_200, il_lt_200, il_gt_200, il_eq_200, il_le_400, il_ge_400, il_lt_400, il_gt_400, il_eq_400, il_le_700, il_ge_700, il_lt_700, il_gt_700, il_eq_700, e1, e2, ki12, kg2, kv2_3, kv2_5, kg12, kv12_0, kg8, kv8_1, ki9, kw2_5, k_rs, k_rn, k_r2, k_c2, up_s, up_n]
    refine ⟨fun st => ⟨fun c0 => no (fun z => z.2 (by rw [g4, c0]; rfl)), fun c0 => ?_⟩, fun st => no (fun z => st z.1)⟩
    obtain ⟨v, rfl⟩ : ∃ v, lv = v + 1 := ⟨lv - 1, by omega⟩
    obtain ⟨E, kLg, ⟨hs1, hS⟩, ⟨hs5, hS5⟩, _, kEn, kAs, kLk, kVe, kMi⟩ := hK
    have hK : K_all N own n b l nl nw nr ne ch 0 Z P U r S := ⟨E, kLg, ⟨hs1, hS⟩, ⟨hs5, hS5⟩, kDe, kEn, kAs, kLk, kVe, kMi⟩
    have a1 : Z.1 (own + 1) = 9 := hs1.1
    have lp : ∀ k o (P' : k_P) w4, o + k = n → Lo Z U own (dl U own j) v o P P' → e_Sm g 92 12 cd92 Ψ 32 [some (.ref own), some (.int t), some (.ref (dl U own j)), some (.int (nI o)), w4] [] (K_H Z P' U (B, r)) := by
      intro k
      induction k with
      | zero =>
        intro o P' w4 ho hLo
        have eo : o = n := by omega
        subst eo
        have esz : P'.1 161 (own + 1) = nI o := ((hLo.2 _ _).2 (fun z => absurd z.1 (by decide))).trans hs1.2.1
        have elv : P'.1 45 (dl U own j) = nI (v + 1) := ((hLo.2 _ _).2 (fun z => absurd z.1 (by decide))).trans e2
        have i1 : nI (v + 1) - 1 = nI v := by rw [i_s1 (by omega)]; rfl
        rw [u92_32]
        simp (decide := true) (disch := first | assumption | omega) only [↓u92_0, ↓u92_12, ↓u92_27, ↓u92_30, ↓u92_61, ↓x_nil, ↓x_om, ↓x_aload_0r, ↓x_aload_0n, ↓x_aload_0q, ↓x_iload_1, ↓x_invokevirtual, mt_12_121, x_ps0, x_ps1, x_l40, x_l41, x_l42, x_l43, x_l44, ↓x_cv1, ↓x_astore_2r, ↓x_astore_2n, ↓x_astore_2q, x_cl_i, x_cl_r, x_cl_n, x_cl_q, x_cl_0, x_cl_l, ↓x_aload_2r, ↓x_aload_2n, ↓x_aload_2q, ↓x_ifnonnull_n, ↓x_ifnonnull_r, ↓x_ifnonnull_q, ↓x_iconst_m1, ↓x_ireturn, rt92, ↓x_getfield, ft_12_125, ↓x_iconst_1, ↓x_icmp_ne, ft_12_130, ↓x_if_ne, ↓x_bipush_m2, ↓x_iconst_0, ↓x_istore_3, ↓x_iload_3, ft_12_12, ft_12_86, ↓x_icmp_ge, mt_12_136, ↓x_astore_4r, ↓x_astore_4n, ↓x_astore_4q, ↓x_aload_4r, ↓x_aload_4n, ↓x_aload_4q, ↓x_ifnull_n, ↓x_ifnull_r, ↓x_ifnull_q, mt_12_140, ↓x_iinc_3_1, ↓x_goto, ↓x_dup_i, ↓x_dup_r, ↓x_dup_n, ↓x_isub, ↓x_putfield, x_fit0, x_fit1, x_fit2r, x_fit2n, x_fit2q, Int.reduceAdd, Nat.reduceAdd, true_and, and_true, true_or, or_true, false_or, or_false, reduceCtorEq, false_and, and_false, and_self, or_self, false_implies, true_implies, not_true_eq_false, not_false_eq_true, implies_true, Option.some.injEq, i_add, i_a1, i_m8, i_m5, i_m401, i_40, i_80, i_r40, i_s1, i_am1, i_sub, i_lt, i_le, i_eq, i_m1, il_le_0, il_ge_0, il_lt_0, il_gt_0, il_eq_0, il_le_1, il_ge_1, il_lt_1, il_gt_1, il_eq_1, il_le_2, il_ge_2, il_lt_2, il_gt_2, il_eq_2, il_le_3, il_ge_3, il_lt_3, il_gt_3, il_eq_3, il_le_4, il_ge_4, il_lt_4, il_gt_4, il_eq_4, il_le_5, il_ge_5, il_lt_5, il_gt_5, il_eq_5, il_le_6, il_ge_6, il_lt_6, il_gt_6, il_eq_6, il_le_7, il_ge_7, il_lt_7, il_gt_7, il_eq_7, il_le_8, il_ge_8, il_lt_8, il_gt_8, il_eq_8, il_le_12, il_ge_12, il_lt_12, il_gt_12, il_eq_12, il_le_16, il_ge_16, il_lt_16, il_gt_16, il_eq_16, il_le_20, il_ge_20, il_lt_20, il_gt_20, il_eq_20, il_le_21, il_ge_21, il_lt_21, il_gt_21, il_eq_21, il_le_40, il_ge_40, il_lt_40, il_gt_40, il_eq_40, il_le_100, il_ge_100, il_lt_100, il_gt_100, il_eq_100, il_le_120, il_ge_120, il_lt_120, il_gt_120, il_eq_120, il_le_200, il_ge_200, il_lt_200, il_gt_200, il_eq_200, il_le_400, il_ge_400, il_lt_400, il_gt_400, il_eq_400, il_le_700, il_ge_700, il_lt_700, il_gt_700, il_eq_700, esz, ki12, kg2, kv2_3, kv2_5, kg12, kv12_0, kg8, kv8_1, ki9, kw2_5, k_rs, k_rn, k_r2, k_c2, up_s, up_n]
        refine ⟨fun _ => ?_, fun c => by omega⟩
        rw [u92_67]
        simp (decide := true) (disch := first | assumption | omega) only [↓u92_0, ↓u92_12, ↓u92_27, ↓u92_30, ↓u92_61, ↓u92_67, ↓x_nil, ↓x_om, ↓x_aload_0r, ↓x_aload_0n, ↓x_aload_0q, ↓x_iload_1, ↓x_invokevirtual, mt_12_121, x_ps0, x_ps1, x_l40, x_l41, x_l42, x_l43, x_l44, ↓x_cv1, ↓x_astore_2r, ↓x_astore_2n, ↓x_astore_2q, x_cl_i, x_cl_r, x_cl_n, x_cl_q, x_cl_0, x_cl_l, ↓x_aload_2r, ↓x_aload_2n, ↓x_aload_2q, ↓x_ifnonnull_n, ↓x_ifnonnull_r, ↓x_ifnonnull_q, ↓x_iconst_m1, ↓x_ireturn, rt92, ↓x_getfield, ft_12_125, ↓x_iconst_1, ↓x_icmp_ne, ft_12_130, ↓x_if_ne, ↓x_bipush_m2, ↓x_iconst_0, ↓x_istore_3, ↓x_iload_3, ft_12_12, ft_12_86, ↓x_icmp_ge, mt_12_136, ↓x_astore_4r, ↓x_astore_4n, ↓x_astore_4q, ↓x_aload_4r, ↓x_aload_4n, ↓x_aload_4q, ↓x_ifnull_n, ↓x_ifnull_r, ↓x_ifnull_q, mt_12_140, ↓x_iinc_3_1, ↓x_goto, ↓x_dup_i, ↓x_dup_r, ↓x_dup_n, ↓x_isub, ↓x_putfield, x_fit0, x_fit1, x_fit2r, x_fit2n, x_fit2q, Int.reduceAdd, Nat.reduceAdd, true_and, and_true, true_or, or_true, false_or, or_false, reduceCtorEq, false_and, and_false, and_self, or_self, false_implies, true_implies, not_true_eq_false, not_false_eq_true, implies_true, Option.some.injEq, elv, i1, ki12, kg2, kv2_3, kv2_5, kg12, kv12_0, kg8, kv8_1, ki9, kw2_5, k_rs, k_rn, k_r2, k_c2, up_s, up_n]
        have rs : (k_wr P' 45 (dl U own j) (nI v)).1 45 (dl U own j) = nI v := k_rs
        have vL : v_L nl (S.1, va_up S.2 78 (y_jnR (nI j) (nI (v + 1)) 0 nl (S.2 73) (S.2 78))).2 = (v_L nl S.2).map (lw j v) := vL_low (S' := (S.1, va_up S.2 78 (y_jnR (nI j) (nI (v + 1)) 0 nl (S.2 73) (S.2 78)))) (by dsimp only; rw [up_s]) (fun f hf => by dsimp only; rw [up_n (by clear fin; revert f; decide)])
        have hK1 := K_low (S' := (S.1, va_up S.2 78 (y_jnR (nI j) (nI (v + 1)) 0 nl (S.2 73) (S.2 78)))) (har_of hI) (lvm_of hI) hK j1 j2 b400 st rfl (fun f hf => by dsimp only; rw [up_n hf]) vL hLo
        have eA' : ∀ f, f ≠ 51 → f ≠ 78 → (va_up (va_up S.2 78 (y_jnR (nI j) (nI (v + 1)) 0 nl (S.2 73) (S.2 78))) 51 (va_up (S.2 51) j (nI v))) f = S.2 f := fun f z1 z2 => by rw [up_n z1, up_n z2]
        have vL' : v_L nl (va_up (va_up S.2 78 (y_jnR (nI j) (nI (v + 1)) 0 nl (S.2 73) (S.2 78))) 51 (va_up (S.2 51) j (nI v))) = (v_L nl S.2).map (lw j v) := by
          rw [← vL]
          exact vL_cg (fun f hf => by dsimp only; rw [up_n (fun z => by subst z; revert hf; decide)])
        have hI2 := I_join (S' := (S.1, va_up (va_up S.2 78 (y_jnR (nI j) (nI (v + 1)) 0 nl (S.2 73) (S.2 78))) 51 (va_up (S.2 51) j (nI v)))) hI j1 j2 st g4 (by omega) rfl eA' (by dsimp only; rw [up_s]) vL'
        have har1 : ∀ u, 1 ≤ u → u ≤ b → undw (va_up S.2 78 (y_jnR (nI j) (nI (v + 1)) 0 nl (S.2 73) (S.2 78))) u ∨ (va_up S.2 78 (y_jnR (nI j) (nI (v + 1)) 0 nl (S.2 73) (S.2 78))) 47 u = 3 → ∀ i ∈ ch u, ar (va_up S.2 78 (y_jnR (nI j) (nI (v + 1)) 0 nl (S.2 73) (S.2 78))) i < nr := fun u u1 u2 hu i hi' => by
          unfold undw at hu
          unfold ar
          rw [up_n (by decide)] at hu ⊢
          exact har_of hI u u1 u2 hu i hi'
        have lvm1 : ∀ u ∈ v_lv l (va_up S.2 78 (y_jnR (nI j) (nI (v + 1)) 0 nl (S.2 73) (S.2 78))), 1 ≤ u ∧ u ≤ b := fun u hu => by
          unfold v_lv at hu
          rw [up_n (by decide)] at hu
          exact lvm_of hI u hu
        have hK2 := K_lvl (S := (S.1, va_up S.2 78 (y_jnR (nI j) (nI (v + 1)) 0 nl (S.2 73) (S.2 78)))) (S' := (S.1, va_up (va_up S.2 78 (y_jnR (nI j) (nI (v + 1)) 0 nl (S.2 73) (S.2 78))) 51 (va_up (S.2 51) j (nI v)))) (w := v + 1) (v := v) har1 lvm1 hK1 j1 j2 (by dsimp only; rw [up_n (by decide)]; exact st) (by dsimp only; rw [up_n (by decide)]; exact g4) g5 (by omega) rfl (fun f hf => by dsimp only; rw [up_n hf]) (by dsimp only; rw [up_s, up_n (by decide)])
        refine fin _ _ ?_ Z _ U r ⟨N, _, b, l, nl, nw, nr, na, ne, ch, T, hI2.next hc, hK2, hR.next⟩
        rw [hv, if_pos ⟨st, fun z => by rw [g4, show (0 : Int32) = nI 0 from rfl, i_eq (by omega) (by omega)] at z; omega⟩, g4, i1, et]
      | succ k ih =>
        intro o P' w4 ho hLo
        have esz : P'.1 161 (own + 1) = nI n := ((hLo.2 _ _).2 (fun z => absurd z.1 (by decide))).trans hs1.2.1
        have ts := k_sp_t E.1 tO kLk.1 (show o < n by omega)
        have h3 := hl_len kLk (show o < n by omega)
        have h4 := n2 o
        unfold k_hl at h3
        rw [u92_32]
        simp (decide := true) (disch := first | assumption | omega) only [↓u92_0, ↓u92_12, ↓u92_27, ↓u92_30, ↓u92_61, ↓x_nil, ↓x_om, ↓x_aload_0r, ↓x_aload_0n, ↓x_aload_0q, ↓x_iload_1, ↓x_invokevirtual, mt_12_121, x_ps0, x_ps1, x_l40, x_l41, x_l42, x_l43, x_l44, ↓x_cv1, ↓x_astore_2r, ↓x_astore_2n, ↓x_astore_2q, x_cl_i, x_cl_r, x_cl_n, x_cl_q, x_cl_0, x_cl_l, ↓x_aload_2r, ↓x_aload_2n, ↓x_aload_2q, ↓x_ifnonnull_n, ↓x_ifnonnull_r, ↓x_ifnonnull_q, ↓x_iconst_m1, ↓x_ireturn, rt92, ↓x_getfield, ft_12_125, ↓x_iconst_1, ↓x_icmp_ne, ft_12_130, ↓x_if_ne, ↓x_bipush_m2, ↓x_iconst_0, ↓x_istore_3, ↓x_iload_3, ft_12_12, ft_12_86, ↓x_icmp_ge, mt_12_136, ↓x_astore_4r, ↓x_astore_4n, ↓x_astore_4q, ↓x_aload_4r, ↓x_aload_4n, ↓x_aload_4q, ↓x_ifnull_n, ↓x_ifnull_r, ↓x_ifnull_q, mt_12_140, ↓x_iinc_3_1, ↓x_goto, ↓x_dup_i, ↓x_dup_r, ↓x_dup_n, ↓x_isub, ↓x_putfield, x_fit0, x_fit1, x_fit2r, x_fit2n, x_fit2q, Int.reduceAdd, Nat.reduceAdd, true_and, and_true, true_or, or_true, false_or, or_false, reduceCtorEq, false_and, and_false, and_self, or_self, false_implies, true_implies, not_true_eq_false, not_false_eq_true, implies_true, Option.some.injEq, i_add, i_a1, i_m8, i_m5, i_m401, i_40, i_80, i_r40, i_s1, i_am1, i_sub, i_lt, i_le, i_eq, i_m1, il_le_0, il_ge_0, il_lt_0, il_gt_0, il_eq_0, il_le_1, il_ge_1, il_lt_1, il_gt_1, il_eq_1, il_le_2, il_ge_2, il_lt_2, il_gt_2, il_eq_2, il_le_3, il_ge_3, il_lt_3, il_gt_3, il_eq_3, il_le_4, il_ge_4, il_lt_4, il_gt_4, il_eq_4, il_le_5, il_ge_5, il_lt_5, il_gt_5, il_eq_5, il_le_6, il_ge_6, il_lt_6, il_gt_6, il_eq_6, il_le_7, il_ge_7, il_lt_7, il_gt_7, il_eq_7, il_le_8, il_ge_8, il_lt_8, il_gt_8, il_eq_8, il_le_12, il_ge_12, il_lt_12, il_gt_12, il_eq_12, il_le_16, il_ge_16, il_lt_16, il_gt_16, il_eq_16, il_le_20, il_ge_20, il_lt_20, il_gt_20, il_eq_20, il_le_21, il_ge_21, il_lt_21, il_gt_21, il_eq_21, il_le_40, il_ge_40, il_lt_40, il_gt_40, il_eq_40, il_le_100, il_ge_100, il_lt_100, il_gt_100, il_eq_100, il_le_120, il_ge_120, il_lt_120, il_gt_120, il_eq_120, il_le_200, il_ge_200, il_lt_200, il_gt_200, il_eq_200, il_le_400, il_ge_400, il_lt_400, il_gt_400, il_eq_400, il_le_700, il_ge_700, il_lt_700, il_gt_700, il_eq_700, esz, ki12, kg2, kv2_3, kv2_5, kg12, kv12_0, kg8, kv8_1, ki9, kw2_5, k_rs, k_rn, k_r2, k_c2, up_s, up_n]
        refine ⟨fun c => by omega, fun _ => h_spotS hg E.1 tO (hs1.keep ((hLo.2 _ _).2 (fun z => absurd z.1 (by decide)))) kLk.1 (by omega) ?_⟩
        simp (decide := true) (disch := first | assumption | omega) only [↓u92_0, ↓u92_12, ↓u92_27, ↓u92_30, ↓u92_61, ↓x_nil, ↓x_om, ↓x_aload_0r, ↓x_aload_0n, ↓x_aload_0q, ↓x_iload_1, ↓x_invokevirtual, mt_12_121, x_ps0, x_ps1, x_l40, x_l41, x_l42, x_l43, x_l44, ↓x_cv1, ↓x_astore_2r, ↓x_astore_2n, ↓x_astore_2q, x_cl_i, x_cl_r, x_cl_n, x_cl_q, x_cl_0, x_cl_l, ↓x_aload_2r, ↓x_aload_2n, ↓x_aload_2q, ↓x_ifnonnull_n, ↓x_ifnonnull_r, ↓x_ifnonnull_q, ↓x_iconst_m1, ↓x_ireturn, rt92, ↓x_getfield, ft_12_125, ↓x_iconst_1, ↓x_icmp_ne, ft_12_130, ↓x_if_ne, ↓x_bipush_m2, ↓x_iconst_0, ↓x_istore_3, ↓x_iload_3, ft_12_12, ft_12_86, ↓x_icmp_ge, mt_12_136, ↓x_astore_4r, ↓x_astore_4n, ↓x_astore_4q, ↓x_aload_4r, ↓x_aload_4n, ↓x_aload_4q, ↓x_ifnull_n, ↓x_ifnull_r, ↓x_ifnull_q, mt_12_140, ↓x_iinc_3_1, ↓x_goto, ↓x_dup_i, ↓x_dup_r, ↓x_dup_n, ↓x_isub, ↓x_putfield, x_fit0, x_fit1, x_fit2r, x_fit2n, x_fit2q, Int.reduceAdd, Nat.reduceAdd, true_and, and_true, true_or, or_true, false_or, or_false, reduceCtorEq, false_and, and_false, and_self, or_self, false_implies, true_implies, not_true_eq_false, not_false_eq_true, implies_true, Option.some.injEq, i_add, i_a1, i_m8, i_m5, i_m401, i_40, i_80, i_r40, i_s1, i_am1, i_sub, i_lt, i_le, i_eq, i_m1, il_le_0, il_ge_0, il_lt_0, il_gt_0, il_eq_0, il_le_1, il_ge_1, il_lt_1, il_gt_1, il_eq_1, il_le_2, il_ge_2, il_lt_2, il_gt_2, il_eq_2, il_le_3, il_ge_3, il_lt_3, il_gt_3, il_eq_3, il_le_4, il_ge_4, il_lt_4, il_gt_4, il_eq_4, il_le_5, il_ge_5, il_lt_5, il_gt_5, il_eq_5, il_le_6, il_ge_6, il_lt_6, il_gt_6, il_eq_6, il_le_7, il_ge_7, il_lt_7, il_gt_7, il_eq_7, il_le_8, il_ge_8, il_lt_8, il_gt_8, il_eq_8, il_le_12, il_ge_12, il_lt_12, il_gt_12, il_eq_12, il_le_16, il_ge_16, il_lt_16, il_gt_16, il_eq_16, il_le_20, il_ge_20, il_lt_20, il_gt_20, il_eq_20, il_le_21, il_ge_21, il_lt_21, il_gt_21, il_eq_21, il_le_40, il_ge_40, il_lt_40, il_gt_40, il_eq_40, il_le_100, il_ge_100, il_lt_100, il_gt_100, il_eq_100, il_le_120, il_ge_120, il_lt_120, il_gt_120, il_eq_120, il_le_200, il_ge_200, il_lt_200, il_gt_200, il_eq_200, il_le_400, il_ge_400, il_lt_400, il_gt_400, il_eq_400, il_le_700, il_ge_700, il_lt_700, il_gt_700, il_eq_700, ki12, kg2, kv2_3, kv2_5, kg12, kv12_0, kg8, kv8_1, ki9, kw2_5, k_rs, k_rn, k_r2, k_c2, up_s, up_n]
        refine h_lowerLevel hg hA E.1 ts td (by omega) (kLk.2.2.2.2.1 o (by omega)) ?_
        simp (decide := true) (disch := first | assumption | omega) only [↓u92_0, ↓u92_12, ↓u92_27, ↓u92_30, ↓u92_61, ↓x_nil, ↓x_om, ↓x_aload_0r, ↓x_aload_0n, ↓x_aload_0q, ↓x_iload_1, ↓x_invokevirtual, mt_12_121, x_ps0, x_ps1, x_l40, x_l41, x_l42, x_l43, x_l44, ↓x_cv1, ↓x_astore_2r, ↓x_astore_2n, ↓x_astore_2q, x_cl_i, x_cl_r, x_cl_n, x_cl_q, x_cl_0, x_cl_l, ↓x_aload_2r, ↓x_aload_2n, ↓x_aload_2q, ↓x_ifnonnull_n, ↓x_ifnonnull_r, ↓x_ifnonnull_q, ↓x_iconst_m1, ↓x_ireturn, rt92, ↓x_getfield, ft_12_125, ↓x_iconst_1, ↓x_icmp_ne, ft_12_130, ↓x_if_ne, ↓x_bipush_m2, ↓x_iconst_0, ↓x_istore_3, ↓x_iload_3, ft_12_12, ft_12_86, ↓x_icmp_ge, mt_12_136, ↓x_astore_4r, ↓x_astore_4n, ↓x_astore_4q, ↓x_aload_4r, ↓x_aload_4n, ↓x_aload_4q, ↓x_ifnull_n, ↓x_ifnull_r, ↓x_ifnull_q, mt_12_140, ↓x_iinc_3_1, ↓x_goto, ↓x_dup_i, ↓x_dup_r, ↓x_dup_n, ↓x_isub, ↓x_putfield, x_fit0, x_fit1, x_fit2r, x_fit2n, x_fit2q, Int.reduceAdd, Nat.reduceAdd, true_and, and_true, true_or, or_true, false_or, or_false, reduceCtorEq, false_and, and_false, and_self, or_self, false_implies, true_implies, not_true_eq_false, not_false_eq_true, implies_true, Option.some.injEq, i_add, i_a1, i_m8, i_m5, i_m401, i_40, i_80, i_r40, i_s1, i_am1, i_sub, i_lt, i_le, i_eq, i_m1, il_le_0, il_ge_0, il_lt_0, il_gt_0, il_eq_0, il_le_1, il_ge_1, il_lt_1, il_gt_1, il_eq_1, il_le_2, il_ge_2, il_lt_2, il_gt_2, il_eq_2, il_le_3, il_ge_3, il_lt_3, il_gt_3, il_eq_3, il_le_4, il_ge_4, il_lt_4, il_gt_4, il_eq_4, il_le_5, il_ge_5, il_lt_5, il_gt_5, il_eq_5, il_le_6, il_ge_6, il_lt_6, il_gt_6, il_eq_6, il_le_7, il_ge_7, il_lt_7, il_gt_7, il_eq_7, il_le_8, il_ge_8, il_lt_8, il_gt_8, il_eq_8, il_le_12, il_ge_12, il_lt_12, il_gt_12, il_eq_12, il_le_16, il_ge_16, il_lt_16, il_gt_16, il_eq_16, il_le_20, il_ge_20, il_lt_20, il_gt_20, il_eq_20, il_le_21, il_ge_21, il_lt_21, il_gt_21, il_eq_21, il_le_40, il_ge_40, il_lt_40, il_gt_40, il_eq_40, il_le_100, il_ge_100, il_lt_100, il_gt_100, il_eq_100, il_le_120, il_ge_120, il_lt_120, il_gt_120, il_eq_120, il_le_200, il_ge_200, il_lt_200, il_gt_200, il_eq_200, il_le_400, il_ge_400, il_lt_400, il_gt_400, il_eq_400, il_le_700, il_ge_700, il_lt_700, il_gt_700, il_eq_700, ki12, kg2, kv2_3, kv2_5, kg12, kv12_0, kg8, kv8_1, ki9, kw2_5, k_rs, k_rn, k_r2, k_c2, up_s, up_n]
        exact ih (o + 1) _ _ (by omega) (hLo.step e2 (by omega))
    rw [u92_30]
    simp (decide := true) (disch := first | assumption | omega) only [↓u92_0, ↓u92_12, ↓u92_27, ↓u92_30, ↓u92_61, ↓x_nil, ↓x_om, ↓x_aload_0r, ↓x_aload_0n, ↓x_aload_0q, ↓x_iload_1, ↓x_invokevirtual, mt_12_121, x_ps0, x_ps1, x_l40, x_l41, x_l42, x_l43, x_l44, ↓x_cv1, ↓x_astore_2r, ↓x_astore_2n, ↓x_astore_2q, x_cl_i, x_cl_r, x_cl_n, x_cl_q, x_cl_0, x_cl_l, ↓x_aload_2r, ↓x_aload_2n, ↓x_aload_2q, ↓x_ifnonnull_n, ↓x_ifnonnull_r, ↓x_ifnonnull_q, ↓x_iconst_m1, ↓x_ireturn, rt92, ↓x_getfield, ft_12_125, ↓x_iconst_1, ↓x_icmp_ne, ft_12_130, ↓x_if_ne, ↓x_bipush_m2, ↓x_iconst_0, ↓x_istore_3, ↓x_iload_3, ft_12_12, ft_12_86, ↓x_icmp_ge, mt_12_136, ↓x_astore_4r, ↓x_astore_4n, ↓x_astore_4q, ↓x_aload_4r, ↓x_aload_4n, ↓x_aload_4q, ↓x_ifnull_n, ↓x_ifnull_r, ↓x_ifnull_q, mt_12_140, ↓x_iinc_3_1, ↓x_goto, ↓x_dup_i, ↓x_dup_r, ↓x_dup_n, ↓x_isub, ↓x_putfield, x_fit0, x_fit1, x_fit2r, x_fit2n, x_fit2q, Int.reduceAdd, Nat.reduceAdd, true_and, and_true, true_or, or_true, false_or, or_false, reduceCtorEq, false_and, and_false, and_self, or_self, false_implies, true_implies, not_true_eq_false, not_false_eq_true, implies_true, Option.some.injEq, i_add, i_a1, i_m8, i_m5, i_m401, i_40, i_80, i_r40, i_s1, i_am1, i_sub, i_lt, i_le, i_eq, i_m1, il_le_0, il_ge_0, il_lt_0, il_gt_0, il_eq_0, il_le_1, il_ge_1, il_lt_1, il_gt_1, il_eq_1, il_le_2, il_ge_2, il_lt_2, il_gt_2, il_eq_2, il_le_3, il_ge_3, il_lt_3, il_gt_3, il_eq_3, il_le_4, il_ge_4, il_lt_4, il_gt_4, il_eq_4, il_le_5, il_ge_5, il_lt_5, il_gt_5, il_eq_5, il_le_6, il_ge_6, il_lt_6, il_gt_6, il_eq_6, il_le_7, il_ge_7, il_lt_7, il_gt_7, il_eq_7, il_le_8, il_ge_8, il_lt_8, il_gt_8, il_eq_8, il_le_12, il_ge_12, il_lt_12, il_gt_12, il_eq_12, il_le_16, il_ge_16, il_lt_16, il_gt_16, il_eq_16, il_le_20, il_ge_20, il_lt_20, il_gt_20, il_eq_20, il_le_21, il_ge_21, il_lt_21, il_gt_21, il_eq_21, il_le_40, il_ge_40, il_lt_40, il_gt_40, il_eq_40, il_le_100, il_ge_100, il_lt_100, il_gt_100, il_eq_100, il_le_120, il_ge_120, il_lt_120, il_gt_120, il_eq_120, il_le_200, il_ge_200, il_lt_200, il_gt_200, il_eq_200, il_le_400, il_ge_400, il_lt_400, il_gt_400, il_eq_400, il_le_700, il_ge_700, il_lt_700, il_gt_700, il_eq_700, ki12, kg2, kv2_3, kv2_5, kg12, kv12_0, kg8, kv8_1, ki9, kw2_5, k_rs, k_rn, k_r2, k_c2, up_s, up_n]
    exact lp n 0 P _ (by omega) ⟨rfl, fun f a => ⟨fun z => by obtain ⟨o', o1, _⟩ := z.2.1; omega, fun _ => rfl⟩⟩
end UY
