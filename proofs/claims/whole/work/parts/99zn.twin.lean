/-! the two side by side: what holds between calls -/
section TQ
variable {g : e_G} {Ψ Φ : e_Q} {B : Nat → Option e_Cl} {Z Z' : k_Z} {P P' : k_P} {U U' : k_U} {r r' r0 : Nat × Nat} {S S' : m_S} {N own n b l nl nw nr na ne c T t : Nat} {ch : Nat → List Nat}
/-- between calls -/
def V (own c : Nat) (r0 : Nat × Nat) (Z : k_Z) (P : k_P) (U : k_U) (r : Nat × Nat) (S : m_S) : Prop :=
  ∃ N n b l nl nw nr na ne ch T, I_all n b l nl nw nr na ne ch 0 c T S ∧ K_all N own n b l nl nw nr ne ch 0 Z P U r S ∧ K_ro N c T r0 r Z.2.1 S
/-- one call: both go, and answer alike -/
def TW (g : e_G) (own : Nat) (r0 : Nat × Nat) (kc km : Nat) (args : List Value) : Prop := ∀ (c : Nat) (Z : k_Z) (P : k_P) (U : k_U) (r : Nat × Nat) (S : m_S) (B : Nat → Option e_Cl) (Ψ : e_Q), c + 1 ≤ 512 → V own c r0 Z P U r S →
  (∀ a Z' P' U' r' S', V own (c + 1) r0 Z' P' U' r' S' → (∀ M h (Φ : e_Q), Φ (some (.int a)) (m_H M S'.1 S'.2 h) → e_Sc g km (.ref M :: args) (m_H M S.1 S.2 h) Φ) → Ψ (some (.int a)) (K_H Z' P' U' (B, r'))) →
  e_Sc g kc (.ref own :: args) (K_H Z P U (B, r)) Ψ
theorem I_all.next (h : I_all n b l nl nw nr na ne ch 0 c T S) (hc : c + 1 ≤ 512) : I_all n b l nl nw nr na ne ch 0 (c + 1) T S := by
  obtain ⟨a1, a2, a3, a4, a5, a6, ⟨p1, p2, p3, p4, p5, p6, p7⟩, a8⟩ := h
  exact ⟨a1, a2, a3, a4, a5, a6, ⟨p1, by omega, hc, by omega, by omega, by omega, p7⟩, a8⟩
theorem K_ro.step {C C' : Nat → Nat} {x y dT dL : Nat} (h : K_ro N c T r0 r C S) (k : k_ro N x y C r C' r') (hl : (S'.1 66).toNatClampNeg = (S.1 66).toNatClampNeg + dL) (hx : x ≤ dT + dL + 400) (hy : y ≤ 10 * dT + 8 * dL + 3000) : K_ro N (c + 1) (T + dT) r0 r' C' S' := by
  obtain ⟨a1, a2⟩ := h
  obtain ⟨b1, b2, b3, b4, _⟩ := k
  refine ⟨?_, ?_⟩
  · rw [hl]; omega
  · rw [hl]; omega
theorem K_ro.next {C : Nat → Nat} (h : K_ro N c T r0 r C S) : K_ro N (c + 1) T r0 r C S := ⟨by have := h.1; omega, by have := h.2; omega⟩
theorem V.next (h : V own c r0 Z P U r S) (hc : c + 1 ≤ 512) : V own (c + 1) r0 Z P U r S := by
  obtain ⟨N, n, b, l, nl, nw, nr, na, ne, ch, T, hI, hK, hR⟩ := h
  exact ⟨N, n, b, l, nl, nw, nr, na, ne, ch, T, hI.next hc, hK, hR.next⟩
theorem in_f1 {t : Int32} {b : Nat} (hb : b ≤ 400) (h : ¬ (1 ≤ t ∧ t ≤ nI b)) : y_isIn t 1 (nI b) = false := by
  cases e : y_isIn t 1 (nI b)
  · rfl
  · exfalso
    apply h
    unfold y_isIn at e
    simpa using e
theorem dO_ok (hl : (U.2.1 (own + 14)).length = b) (hb : b ≤ 400) (t : Int32) : (k_dO U own t = none ∧ y_isIn t 1 (nI b) = false) ∨ ∃ j, 1 ≤ j ∧ j ≤ b ∧ t = nI j ∧ k_dO U own t = some (dl U own j) ∧ y_isIn t 1 (nI b) = true := by
  by_cases c : 1 ≤ t ∧ t ≤ nI b
  · have hi : y_isIn t 1 (nI b) = true := in_tr c.1 c.2
    obtain ⟨j, j1, j2, rfl⟩ := i1_t (by omega) hi
    refine Or.inr ⟨j, j1, j2, rfl, ?_, hi⟩
    unfold k_dO
    rw [hl, if_pos c, i_cl (by omega)]
    exact dl_mem hl j1 j2
  · refine Or.inl ⟨?_, in_f1 hb c⟩
    unfold k_dO
    rw [hl, if_neg c]
theorem st_cases (hD : I_de b l 0 S) (h1 : 1 ≤ t) (h2 : t ≤ b) : S.2 47 t = 1 ∨ S.2 47 t = 2 ∨ S.2 47 t = 3 ∨ S.2 47 t = 4 := by
  obtain ⟨st, _, _, _, a1, a2, a3, _⟩ := hD.2.2.1 t h1 h2
  rw [a1]
  have : st = 1 ∨ st = 2 ∨ st = 3 ∨ st = 4 := by omega
  rcases this with rfl | rfl | rfl | rfl
  · exact Or.inl rfl
  · exact Or.inr (Or.inl rfl)
  · exact Or.inr (Or.inr (Or.inl rfl))
  · exact Or.inr (Or.inr (Or.inr rfl))
theorem t_undo (hg : e_GK g) (hA : e_AK g) {t : Int32} : TW g own r0 97 190 [.int t] := by
  intro c Z P U r S B Ψ hc hV q
  have hV0 := hV
  obtain ⟨N, n, b, l, nl, nw, nr, na, ne, ch, T, hI, hK, hR⟩ := hV
  have b400 := hI.2.1.1
  have tO := hK.1.2.1
  have kDe := hK.2.2.2.2.1
  have hb : S.1 44 = nI b := hI.2.1.2.1
  refine e_call (cd := cd97) hg ok97 (by rw [mL97]; exact Nat.le_of_ble_eq_true rfl) ?_
  rw [mL97]
  simp only [x_ini, x_inr, x_inn, x_inq, x_inl, x_in0, x_rp0, x_rps, Nat.reduceSub]
  simp (decide := true) (disch := first | assumption | omega) only [↓u97_0, ↓u97_12, ↓u97_22, ↓x_nil, ↓x_om, ↓x_aload_0r, ↓x_aload_0n, ↓x_aload_0q, ↓x_iload_1, ↓x_invokevirtual, mt_12_121, x_ps0, x_ps1, x_l40, x_l41, x_l42, x_l43, x_l44, ↓x_cv1, ↓x_astore_2r, ↓x_astore_2n, ↓x_astore_2q, x_cl_i, x_cl_r, x_cl_n, x_cl_q, x_cl_0, x_cl_l, ↓x_aload_2r, ↓x_aload_2n, ↓x_aload_2q, ↓x_ifnonnull_n, ↓x_ifnonnull_r, ↓x_ifnonnull_q, ↓x_iconst_m1, ↓x_ireturn, rt97, mt_12_188, ↓x_cv0, ↓x_if_ne, ↓x_bipush_m2, ↓x_iconst_3, mt_12_191, ↓x_cv2, ↓x_istore_3, ↓x_null, mt_12_155, ↓x_iload_3, Int.reduceAdd, Nat.reduceAdd, true_and, and_true, true_or, or_true, false_or, or_false, reduceCtorEq, false_and, and_false, and_self, or_self, false_implies, true_implies, not_true_eq_false, not_false_eq_true, implies_true, Option.some.injEq, ki12, ki2, up_s, up_n]
  refine h_dealOf hg hA hK.1.1 tO (by rw [kDe.1]; omega) ?_
  rcases dO_ok kDe.1 b400 t with ⟨e, hi⟩ | ⟨j, j1, j2, et, e, hi⟩
  · rw [e, k_rfn]
    simp (decide := true) (disch := first | assumption | omega) only [↓u97_0, ↓u97_12, ↓u97_22, ↓x_nil, ↓x_om, ↓x_aload_0r, ↓x_aload_0n, ↓x_aload_0q, ↓x_iload_1, ↓x_invokevirtual, mt_12_121, x_ps0, x_ps1, x_l40, x_l41, x_l42, x_l43, x_l44, ↓x_cv1, ↓x_astore_2r, ↓x_astore_2n, ↓x_astore_2q, x_cl_i, x_cl_r, x_cl_n, x_cl_q, x_cl_0, x_cl_l, ↓x_aload_2r, ↓x_aload_2n, ↓x_aload_2q, ↓x_ifnonnull_n, ↓x_ifnonnull_r, ↓x_ifnonnull_q, ↓x_iconst_m1, ↓x_ireturn, rt97, mt_12_188, ↓x_cv0, ↓x_if_ne, ↓x_bipush_m2, ↓x_iconst_3, mt_12_191, ↓x_cv2, ↓x_istore_3, ↓x_null, mt_12_155, ↓x_iload_3, Int.reduceAdd, Nat.reduceAdd, true_and, and_true, true_or, or_true, false_or, or_false, reduceCtorEq, false_and, and_false, and_self, or_self, false_implies, true_implies, not_true_eq_false, not_false_eq_true, implies_true, Option.some.injEq, ki12, ki2, up_s, up_n]
    exact q (-1) Z P U r S (hV0.next hc) (fun M h Φ hq => c_undo hg (Or.inl ⟨by rw [hb]; exact hi, rfl, rfl⟩) hq)
  · have td := (dl_t hK.1 kDe.1 j1 j2).1
    have est := (kDe.2.2.1 j j1 j2).2.2.2.1
    rw [e, k_rfs]
    simp (decide := true) (disch := first | assumption | omega) only [↓u97_0, ↓u97_12, ↓u97_22, ↓x_nil, ↓x_om, ↓x_aload_0r, ↓x_aload_0n, ↓x_aload_0q, ↓x_iload_1, ↓x_invokevirtual, mt_12_121, x_ps0, x_ps1, x_l40, x_l41, x_l42, x_l43, x_l44, ↓x_cv1, ↓x_astore_2r, ↓x_astore_2n, ↓x_astore_2q, x_cl_i, x_cl_r, x_cl_n, x_cl_q, x_cl_0, x_cl_l, ↓x_aload_2r, ↓x_aload_2n, ↓x_aload_2q, ↓x_ifnonnull_n, ↓x_ifnonnull_r, ↓x_ifnonnull_q, ↓x_iconst_m1, ↓x_ireturn, rt97, mt_12_188, ↓x_cv0, ↓x_if_ne, ↓x_bipush_m2, ↓x_iconst_3, mt_12_191, ↓x_cv2, ↓x_istore_3, ↓x_null, mt_12_155, ↓x_iload_3, Int.reduceAdd, Nat.reduceAdd, true_and, and_true, true_or, or_true, false_or, or_false, reduceCtorEq, false_and, and_false, and_self, or_self, false_implies, true_implies, not_true_eq_false, not_false_eq_true, implies_true, Option.some.injEq, ki12, ki2, up_s, up_n]
    refine h_isUnderWay hg td ?_
    rw [est]
    simp (decide := true) (disch := first | assumption | omega) only [↓u97_0, ↓u97_12, ↓u97_22, ↓x_nil, ↓x_om, ↓x_aload_0r, ↓x_aload_0n, ↓x_aload_0q, ↓x_iload_1, ↓x_invokevirtual, mt_12_121, x_ps0, x_ps1, x_l40, x_l41, x_l42, x_l43, x_l44, ↓x_cv1, ↓x_astore_2r, ↓x_astore_2n, ↓x_astore_2q, x_cl_i, x_cl_r, x_cl_n, x_cl_q, x_cl_0, x_cl_l, ↓x_aload_2r, ↓x_aload_2n, ↓x_aload_2q, ↓x_ifnonnull_n, ↓x_ifnonnull_r, ↓x_ifnonnull_q, ↓x_iconst_m1, ↓x_ireturn, rt97, mt_12_188, ↓x_cv0, ↓x_if_ne, ↓x_bipush_m2, ↓x_iconst_3, mt_12_191, ↓x_cv2, ↓x_istore_3, ↓x_null, mt_12_155, ↓x_iload_3, Int.reduceAdd, Nat.reduceAdd, true_and, and_true, true_or, or_true, false_or, or_false, reduceCtorEq, false_and, and_false, and_self, or_self, false_implies, true_implies, not_true_eq_false, not_false_eq_true, implies_true, Option.some.injEq, ki12, ki2, up_s, up_n]
    refine c_bool (fun z => ?_) (fun z => ?_)
    · have hu : undw S.2 j := by
        rw [Bool.or_eq_true, beq_iff_eq, beq_iff_eq] at z
        exact z
      obtain ⟨i, hi2⟩ := List.mem_iff_getElem?.mp ((hI.2.1.2.2.2.2.2.2.2.2.1 j).mpr ⟨j1, j2, hu⟩)
      obtain ⟨rU, _⟩ := I_undo (cc := 3) hI j1 j2 hu hi2
      refine s_undoWhole hg hA hI hK j1 j2 hu hi2 (fun Z1 P1 U1 r1 nl1 nw1 hI1 hK1 e14 ro => ?_)
      have tO1 := hK1.1.2.1
      simp (decide := true) (disch := first | assumption | omega) only [↓u97_0, ↓u97_12, ↓u97_22, ↓x_nil, ↓x_om, ↓x_aload_0r, ↓x_aload_0n, ↓x_aload_0q, ↓x_iload_1, ↓x_invokevirtual, mt_12_121, x_ps0, x_ps1, x_l40, x_l41, x_l42, x_l43, x_l44, ↓x_cv1, ↓x_astore_2r, ↓x_astore_2n, ↓x_astore_2q, x_cl_i, x_cl_r, x_cl_n, x_cl_q, x_cl_0, x_cl_l, ↓x_aload_2r, ↓x_aload_2n, ↓x_aload_2q, ↓x_ifnonnull_n, ↓x_ifnonnull_r, ↓x_ifnonnull_q, ↓x_iconst_m1, ↓x_ireturn, rt97, mt_12_188, ↓x_cv0, ↓x_if_ne, ↓x_bipush_m2, ↓x_iconst_3, mt_12_191, ↓x_cv2, ↓x_istore_3, ↓x_null, mt_12_155, ↓x_iload_3, Int.reduceAdd, Nat.reduceAdd, true_and, and_true, true_or, or_true, false_or, or_false, reduceCtorEq, false_and, and_false, and_self, or_self, false_implies, true_implies, not_true_eq_false, not_false_eq_true, implies_true, Option.some.injEq, ki12, ki2, up_s, up_n]
      refine s_settle0 hg hA hI1 hK1 (fun Z2 P2 U2 r2 S2 l2 nl2 nw2 nr2 na2 ch2 x y f hI2 hK2 hdl ro2 la h4 hr => ?_)
      simp (decide := true) (disch := first | assumption | omega) only [↓u97_0, ↓u97_12, ↓u97_22, ↓x_nil, ↓x_om, ↓x_aload_0r, ↓x_aload_0n, ↓x_aload_0q, ↓x_iload_1, ↓x_invokevirtual, mt_12_121, x_ps0, x_ps1, x_l40, x_l41, x_l42, x_l43, x_l44, ↓x_cv1, ↓x_astore_2r, ↓x_astore_2n, ↓x_astore_2q, x_cl_i, x_cl_r, x_cl_n, x_cl_q, x_cl_0, x_cl_l, ↓x_aload_2r, ↓x_aload_2n, ↓x_aload_2q, ↓x_ifnonnull_n, ↓x_ifnonnull_r, ↓x_ifnonnull_q, ↓x_iconst_m1, ↓x_ireturn, rt97, mt_12_188, ↓x_cv0, ↓x_if_ne, ↓x_bipush_m2, ↓x_iconst_3, mt_12_191, ↓x_cv2, ↓x_istore_3, ↓x_null, mt_12_155, ↓x_iload_3, Int.reduceAdd, Nat.reduceAdd, true_and, and_true, true_or, or_true, false_or, or_false, reduceCtorEq, false_and, and_false, and_self, or_self, false_implies, true_implies, not_true_eq_false, not_false_eq_true, implies_true, Option.some.injEq, ki12, ki2, up_s, up_n]
      refine q _ Z2 P2 U2 r2 S2 ⟨N, n, b, l2, nl2, nw2, nr2, na2, ne, ch2, T + ((ch j).length + 1 + x), by rw [show T + ((ch j).length + 1 + x) = T + (ch j).length + 1 + x by omega]; exact hI2.next hc, hK2, hR.step (ro.tr ro2) (dL := y) (by rw [la, su_F (by decide)]) (by omega) (by omega)⟩ (fun M h Φ hq => c_undo hg (Or.inr ⟨j, by omega, et, by rw [hb]; exact hi, Or.inr ⟨_, f, _, ?_, rU, hr, rfl⟩⟩) hq)
      rcases hu with z | z <;> rw [z] <;> decide
    · have hs : 2 < S.2 47 j := by
        rw [Bool.or_eq_false_iff, beq_eq_false_iff_ne, beq_eq_false_iff_ne] at z
        rcases st_cases hI.2.1 j1 j2 with w | w | w | w
        · exact absurd w z.1
        · exact absurd w z.2
        · rw [w]; decide
        · rw [w]; decide
      exact q (-2) Z P U r S (hV0.next hc) (fun M h Φ hq => c_undo hg (Or.inr ⟨j, by omega, et, by rw [hb]; exact hi, Or.inl ⟨hs, rfl, rfl⟩⟩) hq)
end TQ
