/-! rule, limit, group -/
section TW1
variable {g : e_G} {Z : k_Z} {P P' : k_P} {U : k_U} {r r0 : Nat × Nat} {S S' : m_S} {N own n b l nl nw nr na ne c T t cur : Nat} {ch : Nat → List Nat} {X : List Nat}
def fp_I : List Nat := [13, 33, 44, 45, 60, 72, 80, 66]
theorem I_F (hI : I_all n b l nl nw nr na ne ch cur c T S) (e2 : S'.2 = S.2) (eF : ∀ f ∈ fp_I, S'.1 f = S.1 f) (hM : I_mi n nr S') : I_all n b l nl nw nr na ne ch cur c T S' := by
  obtain ⟨hL, hD, hE, hK, hV, _, hP, hX⟩ := hI
  refine ⟨?_, ?_, ?_, ?_, ?_, hM, ?_, by rw [e2]; exact hX⟩
  · unfold I_lg at hL ⊢; rw [e2, eF 13 (by decide), eF 33 (by decide)]; exact hL
  · unfold I_de at hD ⊢; rw [e2, eF 44 (by decide), eF 45 (by decide)]; exact hD
  · unfold I_en at hE ⊢; rw [e2, eF 60 (by decide)]; exact hE
  · unfold I_lk I_gh at hK ⊢; rw [e2, eF 72 (by decide), eF 80 (by decide)]; exact hK
  · unfold I_ve at hV ⊢; rw [e2]; exact hV
  · unfold I_po at hP ⊢; rw [e2, eF 66 (by decide)]; exact hP
def fp_lkP : List Nat := [40, 47, 43, 61, 62, 63, 64, 66, 65, 67, 180]
def fp_lkA : List Nat := [73, 74, 75, 76, 77, 78, 79, 81, 82, 83, 84, 85, 86, 4, 47, 55]
theorem K_lk.cgP (h : K_lk own n b nl nw cur Z P U S) (eA : ∀ f ∈ fp_lkA, S'.2 f = S.2 f) (lev : ∀ u, 1 ≤ u → u ≤ b → S.2 47 u = 2 → S'.2 51 u = S.2 51 u) (fP : ∀ f ∈ fp_lkP, ∀ a, P'.1 f a = P.1 f a) : K_lk own n b nl nw cur Z P' U S' := by
  have eL : ∀ x, LV Z P' x = LV Z P x := fun x => funext fun y => by
    unfold LV
    rw [fP _ (by decide), fP _ (by decide), fP _ (by decide), fP _ (by decide), fP _ (by decide), fP _ (by decide), fP _ (by decide), fP _ (by decide), fP _ (by decide)]
  have eW : WV Z P' = WV Z P := funext fun y => by
    unfold WV
    rw [fP _ (by decide), fP _ (by decide), fP _ (by decide), fP _ (by decide), fP _ (by decide), fP _ (by decide)]
  have vl : v_L nl S'.2 = v_L nl S.2 := v_L_cg (fun f hf => eA f (by revert f; decide))
  have vw : v_W nw S'.2 = v_W nw S.2 := v_W_cg (fun f hf => eA f (by revert f; decide))
  have est := eA 47 (by decide)
  obtain ⟨g1, g2, g3, g4, g5, g6⟩ := h
  refine ⟨g1, fun o ho => ?_, fun o ho y hy => ?_, fun o ho y hy => ?_, g5, fun u u1 u2 => ?_⟩
  · rw [eL, eW, vl, vw, fP _ (by decide), eA _ (by decide)]; exact g2 o ho
  · rw [fP _ (by decide)]
    obtain ⟨u, q, c1, c2, c3, c4, c5, c6⟩ := g3 o ho y hy
    exact ⟨u, q, c1, c2, by unfold undw at c3 ⊢; rw [est]; exact c3, c4, c5, by rw [eA _ (by decide)]; exact c6⟩
  · rw [fP _ (by decide), fP _ (by decide)]
    obtain ⟨u, c1, c2, c3, c4, c5, c6, c7⟩ := g4 o ho y hy
    exact ⟨u, c1, c2, by rw [est]; exact c3, c4, c5, by rw [lev u c1 c2 c3]; exact c6, by rw [eA _ (by decide)]; exact c7⟩
  · obtain ⟨z1, z2⟩ := g6 u u1 u2
    rw [est]
    exact ⟨z1, fun y hy => by rw [fP _ (by decide)]; exact z2 y hy⟩
def fp_deP : List Nat := [40, 51, 52, 41, 42, 43, 44, 45, 46, 47, 48, 49, 50]
theorem K_F (har : ∀ u, 1 ≤ u → u ≤ b → undw S.2 u ∨ S.2 47 u = 3 → ∀ i ∈ ch u, ar S.2 i < nr) (lvm : ∀ u ∈ v_lv l S.2, 1 ≤ u ∧ u ≤ b) (hK : K_all N own n b l nl nw nr ne ch cur Z P U r S) (hX : ∀ f ∈ fp_4 ++ fp_lkP ++ fp_deP ++ fp_as, f ∉ X) (fP : ∀ f a, f ∉ X → P'.1 f a = P.1 f a) (p2 : P'.2 = P.2) (e2 : S'.2 = S.2) (hM : K_mi own P' S') : K_all N own n b l nl nw nr ne ch cur Z P' U r S' := by
  obtain ⟨q1, q2, q3, q4, q5⟩ := K_four (S1 := S') har hK (X := X) (fun f hf => hX f (List.mem_append_left _ (List.mem_append_left _ (List.mem_append_left _ hf)))) fP (fun a _ => by rw [p2]) (fun f _ => by rw [e2])
  obtain ⟨E, kLg, hs, hs5, kDe, kEn, kAs, kLk, kVe, kMi⟩ := hK
  have d0 : ∀ f ∈ fp_deP, ∀ a, P'.1 f a = P.1 f a := fun f hf a => fP f a (hX f (List.mem_append_left _ (List.mem_append_right _ hf)))
  have m1 : ∀ p ∈ prs, p.1 ∈ fp_deP := by decide
  refine ⟨E, q1, q2, q3, ?_, q4, ?_, kLk.cgP (fun f _ => by rw [e2]) (fun _ _ _ _ => by rw [e2]) (fun f hf a => fP f a (hX f (List.mem_append_left _ (List.mem_append_left _ (List.mem_append_right _ hf))))), q5, hM⟩
  · refine kDe.cg rfl rfl (Nat.le_refl _) (by rw [e2]) lvm (fun u u1 u2 f hf => d0 f (by revert f; decide) _) (fun u u1 u2 p hp => by rw [d0 _ (m1 p hp), e2]; exact kDe.p u1 u2 p hp) (fun u u1 u2 v v1 v2 v3 => ?_) (fun u u1 u2 hus => ⟨⟨by rw [e2] at hus; exact hus, fun z => by rw [e2] at z; exact z⟩, fun j hj => Or.inl ⟨hj, by rw [e2]⟩⟩)
    rw [e2] at v2 ⊢
    rw [p2]
    exact kDe.2.2.2.1 u u1 u2 v v1 v2 v3
  · refine kAs.cg rfl (fun u u1 u2 hin => ⟨by rw [e2] at hin; exact hin, fun f hf => fP f _ (hX f (List.mem_append_right _ hf)), fun f _ => by rw [e2]⟩) (by rw [e2])
/-- one of the three is set -/
theorem V_set {f off F : Nat} {v : Int32} (hV : V own c r0 Z P U r S) (hc : c + 1 ≤ 512) (hf : (f, off, F) = (250, 0, 0) ∨ (f, off, F) = (251, 0, 1) ∨ (f, off, F) = (83, 17, 2)) (hl : F = 1 → ∃ q, 1 ≤ q ∧ q ≤ 200 ∧ v = nI q) : V own (c + 1) r0 Z (k_wr P f (own + off) v) U r (va_up S.1 F v, S.2) := by
  obtain ⟨N, n, b, l, nl, nw, nr, na, ne, ch, T, hI, hK, hR⟩ := hV
  have kMi := hK.2.2.2.2.2.2.2.2.2
  have hI1 := hI.next hc
  have hFn : ∀ x, x ∈ fp_I ++ [3, 32, 29, 30, 14, 93, 16, 63, 94] → x ≠ F := by
    rcases hf with z | z | z <;> (cases z; decide)
  have hfX : ∀ x ∈ fp_4 ++ fp_lkP ++ fp_deP ++ fp_as, x ∉ [f] := by
    rcases hf with z | z | z <;> (cases z; decide)
  have hM : I_mi n nr (va_up S.1 F v, S.2) := by
    obtain ⟨a1, a2, a3, a4, a5, a6, a7, a8, a9, a10⟩ := hI.2.2.2.2.2.1
    refine ⟨by dsimp only; rw [up_n (hFn _ (by decide))]; exact a1, by dsimp only; rw [up_n (hFn _ (by decide))]; exact a2, by dsimp only; rw [up_n (hFn _ (by decide))]; exact a3, by dsimp only; rw [up_n (hFn _ (by decide))]; exact a4, by dsimp only; rw [up_n (hFn _ (by decide))]; exact a5, ?_, a7, by dsimp only; rw [up_n (hFn _ (by decide))]; exact a8, by dsimp only; rw [up_n (hFn 16 (by decide))]; exact a9, by dsimp only; rw [up_n (hFn 63 (by decide))]; exact a10⟩
    dsimp only
    by_cases c0 : F = 1
    · subst c0
      rw [up_s]; exact hl rfl
    · rw [up_n (Ne.symm c0)]; exact a6
  have hKm : K_mi own (k_wr P f (own + off) v) (va_up S.1 F v, S.2) := by
    have u1 : ∀ p ∈ mis, p.1 = f → p = (f, off, F) := by
      rcases hf with z | z | z <;> (cases z; decide)
    have u2 : ∀ p ∈ mis, p.2.2 = F → p = (f, off, F) := by
      rcases hf with z | z | z <;> (cases z; decide)
    refine kMi.cg (fun p hp => ?_) (k_rn (fun e => ?_)) (by dsimp only; rw [up_n (hFn _ (by decide))]) (by dsimp only; rw [up_n (hFn _ (by decide))]) rfl rfl ?_
    · by_cases e : p.1 = f
      · right
        rw [u1 p hp e]
        dsimp only
        rw [k_rs, up_s]
      · left
        refine ⟨k_rn e, ?_⟩
        dsimp only
        rw [up_n (fun z => e (by rw [u2 p hp z]))]
    · rcases hf with z | z | z <;> (cases z; exact absurd e (by decide))
    · dsimp only
      rw [up_n (hFn _ (by decide))]
      exact (mi_iff.mp kMi).2.2.2
  refine ⟨N, n, b, l, nl, nw, nr, na, ne, ch, T, I_F hI1 rfl (fun x hx => up_n (hFn x (List.mem_append_left _ hx))) hM, K_F (X := [f]) (har_of hI) (lvm_of hI) hK hfX (fun x a hx => k_rn (fun e => hx (by rw [e]; exact List.mem_singleton.mpr rfl))) rfl rfl hKm, ?_⟩
  have := hR.next
  unfold K_ro at this ⊢
  dsimp only
  rw [up_n (hFn 66 (by decide))]
  exact this
theorem t_rule (hg : e_GK g) {x : Int32} : TW g own r0 104 223 [.int x] := by
  intro c Z P U r S B Ψ hc hV q
  have hV0 := hV
  obtain ⟨N, n, b, l, nl, nw, nr, na, ne, ch, T, hI, hK, hR⟩ := hV
  have tO := hK.1.2.1
  have e0 : P.1 250 own = S.1 0 := (mi_iff.mp hK.2.2.2.2.2.2.2.2.2).1 (250, 0, 0) (by decide)
  have no : ¬ (0 ≤ x ∧ x ≤ 3) → Ψ (some (.int (-1))) (K_H Z P U (B, r)) := fun z => q (-1) Z P U r S (hV0.next hc) (fun M h Φ hq => c_rule hg (by
    have hi : y_isIn x 0 3 = false := by
      cases e : y_isIn x 0 3
      · rfl
      · exfalso; apply z; unfold y_isIn at e; simpa using e
    unfold y_set
    rw [if_neg (by rw [hi]; decide)]
    exact hq))
  have yes : 0 ≤ x → x ≤ 3 → Ψ (some (.int (P.1 250 own))) (K_H Z (k_wr P 250 own x) U (B, r)) := fun z1 z2 => by
    rw [e0]
    exact q (S.1 0) Z _ U r _ (V_set (off := 0) hV0 hc (Or.inl rfl) (fun z => absurd z (by decide))) (fun M h Φ hq => c_rule hg (by
      unfold y_set
      rw [if_pos (in_tr z1 z2)]
      exact hq))
  refine e_call (cd := cd104) hg ok104 (by rw [mL104]; exact Nat.le_of_ble_eq_true rfl) ?_
  rw [mL104]
  simp only [x_ini, x_inr, x_inn, x_inq, x_inl, x_in0, x_rp0, x_rps, Nat.reduceSub]
  simp (decide := true) (disch := first | assumption | omega) only [↓u104_0, ↓u104_9, ↓u104_11, ↓x_nil, ↓x_om, ↓x_iload_1, ↓x_if_lt, ↓x_iconst_3, ↓x_icmp_le, ↓x_iconst_m1, ↓x_ireturn, rt104, ↓x_aload_0r, ↓x_aload_0n, ↓x_aload_0q, ↓x_getfield, ft_12_62, ↓x_istore_2, x_cl_i, x_cl_r, x_cl_n, x_cl_q, x_cl_0, x_cl_l, ↓x_putfield, x_fit0, x_fit1, x_fit2r, x_fit2n, x_fit2q, ↓x_iload_2, Int.reduceAdd, Nat.reduceAdd, true_and, and_true, true_or, or_true, false_or, or_false, reduceCtorEq, false_and, and_false, and_self, or_self, false_implies, true_implies, not_true_eq_false, not_false_eq_true, implies_true, Option.some.injEq, kg12, kv12_10, kw12_10, k_rs, k_rn, k_r2, k_c2, up_s, up_n]
  refine ⟨fun c => no (fun z => absurd z.1 (Int32.not_le.mpr c)), fun c => ⟨fun c2 => ?_, fun c2 => no (fun z => c2 z.2)⟩⟩
  exact yes (Int32.not_lt.mp c) c2
theorem t_limit (hg : e_GK g) {x : Int32} : TW g own r0 105 224 [.int x] := by
  intro c Z P U r S B Ψ hc hV q
  have hV0 := hV
  obtain ⟨N, n, b, l, nl, nw, nr, na, ne, ch, T, hI, hK, hR⟩ := hV
  have tO := hK.1.2.1
  have e0 : P.1 251 own = S.1 1 := (mi_iff.mp hK.2.2.2.2.2.2.2.2.2).1 (251, 0, 1) (by decide)
  have no : ¬ (1 ≤ x ∧ x ≤ 200) → Ψ (some (.int (-1))) (K_H Z P U (B, r)) := fun z => q (-1) Z P U r S (hV0.next hc) (fun M h Φ hq => c_limit hg (by
    have hi : y_isIn x 1 200 = false := by
      cases e : y_isIn x 1 200
      · rfl
      · exfalso; apply z; unfold y_isIn at e; simpa using e
    unfold y_set
    rw [if_neg (by rw [hi]; decide)]
    exact hq))
  have yes : 1 ≤ x → x ≤ 200 → Ψ (some (.int (P.1 251 own))) (K_H Z (k_wr P 251 own x) U (B, r)) := fun z1 z2 => by
    rw [e0]
    exact q (S.1 1) Z _ U r _ (V_set (off := 0) hV0 hc (Or.inr (Or.inl rfl)) (fun _ => i_inR (lo := 1) (hi := 200) (by omega) (by omega) (in_tr z1 z2))) (fun M h Φ hq => c_limit hg (by
      unfold y_set
      rw [if_pos (in_tr z1 z2)]
      exact hq))
  refine e_call (cd := cd105) hg ok105 (by rw [mL105]; exact Nat.le_of_ble_eq_true rfl) ?_
  rw [mL105]
  simp only [x_ini, x_inr, x_inn, x_inq, x_inl, x_in0, x_rp0, x_rps, Nat.reduceSub]
  simp (decide := true) (disch := first | assumption | omega) only [↓u105_0, ↓u105_12, ↓u105_14, ↓x_nil, ↓x_om, ↓x_iload_1, ↓x_iconst_1, ↓x_icmp_lt, ↓x_sipush_200, ↓x_icmp_le, ↓x_iconst_m1, ↓x_ireturn, rt105, ↓x_aload_0r, ↓x_aload_0n, ↓x_aload_0q, ↓x_getfield, ft_12_66, ↓x_istore_2, x_cl_i, x_cl_r, x_cl_n, x_cl_q, x_cl_0, x_cl_l, ↓x_putfield, x_fit0, x_fit1, x_fit2r, x_fit2n, x_fit2q, ↓x_iload_2, Int.reduceAdd, Nat.reduceAdd, true_and, and_true, true_or, or_true, false_or, or_false, reduceCtorEq, false_and, and_false, and_self, or_self, false_implies, true_implies, not_true_eq_false, not_false_eq_true, implies_true, Option.some.injEq, kg12, kv12_11, kw12_11, k_rs, k_rn, k_r2, k_c2, up_s, up_n]
  refine ⟨fun c => no (fun z => absurd z.1 (Int32.not_le.mpr c)), fun c => ⟨fun c2 => ?_, fun c2 => no (fun z => c2 z.2)⟩⟩
  exact yes (Int32.not_lt.mp c) c2
theorem t_group (hg : e_GK g) {x : Int32} : TW g own r0 106 167 [.int x] := by
  intro c Z P U r S B Ψ hc hV q
  have hV0 := hV
  obtain ⟨N, n, b, l, nl, nw, nr, na, ne, ch, T, hI, hK, hR⟩ := hV
  have tO := hK.1.2.1
  obtain ⟨a1, a2, a3, a4, a5, a6, a7, a8, a9, a10⟩ := hK.1.1.hse tO
  have e0 : P.1 83 (own + 17) = S.1 2 := (mi_iff.mp hK.2.2.2.2.2.2.2.2.2).1 (83, 17, 2) (by decide)
  have no : ¬ (1 ≤ x ∧ x ≤ 20) → Ψ (some (.int (-1))) (K_H Z P U (B, r)) := fun z => q (-1) Z P U r S (hV0.next hc) (fun M h Φ hq => c_group hg (by
    have hi : y_isIn x 1 20 = false := by
      cases e : y_isIn x 1 20
      · rfl
      · exfalso; apply z; unfold y_isIn at e; simpa using e
    unfold y_set
    rw [if_neg (by rw [hi]; decide)]
    exact hq))
  have yes : 1 ≤ x → x ≤ 20 → Ψ (some (.int (P.1 83 (own + 17)))) (K_H Z (k_wr P 83 (own + 17) x) U (B, r)) := fun z1 z2 => by
    rw [e0]
    exact q (S.1 2) Z _ U r _ (V_set (off := 17) hV0 hc (Or.inr (Or.inr rfl)) (fun z => absurd z (by decide))) (fun M h Φ hq => c_group hg (by
      unfold y_set
      rw [if_pos (in_tr z1 z2)]
      exact hq))
  refine e_call (cd := cd106) hg ok106 (by rw [mL106]; exact Nat.le_of_ble_eq_true rfl) ?_
  rw [mL106]
  simp only [x_ini, x_inr, x_inn, x_inq, x_inl, x_in0, x_rp0, x_rps, Nat.reduceSub]
  simp (decide := true) (disch := first | assumption | omega) only [↓u106_0, ↓u106_11, ↓u106_13, ↓x_nil, ↓x_om, ↓x_iload_1, ↓x_iconst_1, ↓x_icmp_lt, ↓x_bipush_20, ↓x_icmp_le, ↓x_iconst_m1, ↓x_ireturn, rt106, ↓x_aload_0r, ↓x_aload_0n, ↓x_aload_0q, ↓x_getfield, ft_12_44, ft_12_260, ↓x_istore_2, x_cl_i, x_cl_r, x_cl_n, x_cl_q, x_cl_0, x_cl_l, ↓x_putfield, x_fit0, x_fit1, x_fit2r, x_fit2n, x_fit2q, ↓x_iload_2, Int.reduceAdd, Nat.reduceAdd, true_and, and_true, true_or, or_true, false_or, or_false, reduceCtorEq, false_and, and_false, and_self, or_self, false_implies, true_implies, not_true_eq_false, not_false_eq_true, implies_true, Option.some.injEq, kg12, kv12_7, kg4, kv4_3, kw4_3, k_rs, k_rn, k_r2, k_c2, up_s, up_n]
  refine ⟨fun c => no (fun z => absurd z.1 (Int32.not_le.mpr c)), fun c => ⟨fun c2 => ?_, fun c2 => no (fun z => c2 z.2)⟩⟩
  exact yes (Int32.not_lt.mp c) c2
end TW1
