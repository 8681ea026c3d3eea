/-! rings: what the search leaves alone -/
section SV
variable {Z : k_Z} {P P' : k_P} {U : k_U} {r : Nat × Nat} {S S' : m_S} {N own n b l nl nw nr na ne cur c T : Nat} {ch : Nat → List Nat}
def fp_rA : List Nat := [96, 95]
def fp_rF : List Nat := [93, 94, 92]
def fp_rP : List Nat := [125, 126, 201]
theorem I_ring (hI : I_all n b l nl nw nr na ne ch cur c T S) (eA : ∀ f, f ∉ fp_rA → S'.2 f = S.2 f) (eF : ∀ f, f ∉ fp_rF → S'.1 f = S.1 f) (hm : ∃ m, m ≤ 12 ∧ S'.1 93 = nI m) : I_all n b l nl nw nr na ne ch cur c T S' := by
  obtain ⟨hL, hD, hE, hK, hV, hM, hP, hX⟩ := hI
  have rwe : rw_eq nr S.2 S'.2 := fun j _ => ⟨by rw [eA _ (by decide)], by rw [eA _ (by decide)], by rw [eA _ (by decide)], by rw [eA _ (by decide)], by rw [eA _ (by decide)], by rw [eA _ (by decide)], by rw [eA _ (by decide)], by rw [eA _ (by decide)]⟩
  have ace : ac_eq S.2 S'.2 := ⟨eA _ (by decide), eA _ (by decide), eA _ (by decide), eA _ (by decide), eA _ (by decide), eA _ (by decide), eA _ (by decide), eA _ (by decide), eA _ (by decide)⟩
  have est := eA 47 (by decide)
  have und : ∀ u, undw S'.2 u = undw S.2 u := fun u => by unfold undw; rw [est]
  have vl : v_L nl S'.2 = v_L nl S.2 := v_L_cg (fun f hf => eA f (by revert f; decide))
  have vw : v_W nw S'.2 = v_W nw S.2 := v_W_cg (fun f hf => eA f (by revert f; decide))
  have vv : v_lv l S'.2 = v_lv l S.2 := by unfold v_lv; rw [eA _ (by decide)]
  refine ⟨?_, ?_, ?_, ?_, hV.cg (eA _ (by decide)) (eA _ (by decide)) (eA _ (by decide)) (eA _ (by decide)) (eA _ (by decide)), ?_, ?_, ?_⟩
  · exact hL.cg ((eF _ (by decide)).trans hL.1) (Nat.le_refl _) rwe (fun j j1 j2 => by omega) (eF _ (by decide)) ace (eA _ (by decide)) (eA _ (by decide)) (eA _ (by decide)) (eA _ (by decide)) (eA _ (by decide)) (eA _ (by decide)) (fun _ _ _ _ => rfl) (fun u _ _ _ => ⟨by rw [eA _ (by decide)], by rw [eA _ (by decide)]⟩) (fun u _ _ => ⟨fun z => by rw [← und]; exact z, fun z => Or.inr (by rw [← est]; exact z)⟩)
  · unfold I_de I_dl inp undw at hD ⊢
    rw [vv, eF 44 (by decide), eF 45 (by decide), est, eA 51 (by decide), eA 52 (by decide), eA 55 (by decide), eA 54 (by decide), eA 48 (by decide), eA 56 (by decide), eA 57 (by decide), eA 46 (by decide), eA 67 (by decide), eA 68 (by decide), eA 71 (by decide)]
    exact hD
  · exact hE.cg (Nat.le_refl _) rwe (fun j j1 j2 => by omega) (eF _ (by decide)) (eA _ (by decide)) (eA _ (by decide)) (eA _ (by decide)) (fun _ _ _ _ => rfl) (fun u _ _ => by rw [eA _ (by decide)]) (fun u _ _ => by rw [est])
  · unfold I_lk I_l1 I_w1 I_gh rem7 dp o_1 kd_1 kd_2 inp undw w_ah at hK ⊢
    rw [vl, vw, eF 72 (by decide), eF 80 (by decide), est, eA 51 (by decide), eA 55 (by decide), eA 54 (by decide), eA 67 (by decide), eA 68 (by decide), eA 69 (by decide), eA 70 (by decide), eA 71 (by decide), eA 7 (by decide), eA 4 (by decide), eA 86 (by decide), eA 36 (by decide), eA 35 (by decide), eA 37 (by decide)]
    exact hK
  · obtain ⟨a1, a2, a3, a4, a5, a6, a7, a8, a9⟩ := hM
    exact ⟨(eF _ (by decide)).trans a1, (eF _ (by decide)).trans a2, (eF _ (by decide)).trans a3, by rw [eF _ (by decide)]; exact a4, by rw [eF _ (by decide)]; exact a5, by rw [eF _ (by decide)]; exact a6, by rw [eA _ (by decide)]; exact a7, hm, by rw [eF 16 (by decide), eF 63 (by decide)]; exact a9⟩
  · unfold I_po at hP ⊢
    rw [vv, est, eA 52 (by decide), eA 55 (by decide), eA 71 (by decide), eF 66 (by decide)]
    exact hP
  · unfold I_ak inp at hX ⊢
    rw [est, eA 67 (by decide), eA 68 (by decide), eA 69 (by decide), eA 70 (by decide)]
    exact hX
theorem K_ring (hI : I_all n b l nl nw nr na ne ch cur c T S) (hK : K_all N own n b l nl nw nr ne ch cur Z P U r S) (eA : ∀ f, f ∉ fp_rA → S'.2 f = S.2 f) (fP : ∀ f a, f ∉ fp_rP → P'.1 f a = P.1 f a) (fP2 : ∀ a, Z.1 a ≠ 112 → P'.2 a = P.2 a) (hmi : K_mi own P' S') : K_all N own n b l nl nw nr ne ch cur Z P' U r S' := by
  obtain ⟨hL, hD, hE, hLk, hV, hM, hP, hX⟩ := hI
  obtain ⟨E, kLg, ⟨hs, hS⟩, ⟨hs5, hS5⟩, kDe, kEn, kAs, kLk, kVe, kMi⟩ := hK
  have est := eA 47 (by decide)
  have tO := E.2.1
  have rwe : rw_eq nr S.2 S'.2 := fun j _ => ⟨by rw [eA _ (by decide)], by rw [eA _ (by decide)], by rw [eA _ (by decide)], by rw [eA _ (by decide)], by rw [eA _ (by decide)], by rw [eA _ (by decide)], by rw [eA _ (by decide)], by rw [eA _ (by decide)]⟩
  have ace : ac_eq S.2 S'.2 := ⟨eA _ (by decide), eA _ (by decide), eA _ (by decide), eA _ (by decide), eA _ (by decide), eA _ (by decide), eA _ (by decide), eA _ (by decide), eA _ (by decide)⟩
  have vl : v_L nl S'.2 = v_L nl S.2 := v_L_cg (fun f hf => eA f (by revert f; decide))
  have vw : v_W nw S'.2 = v_W nw S.2 := v_W_cg (fun f hf => eA f (by revert f; decide))
  have vv : v_lv l S'.2 = v_lv l S.2 := by unfold v_lv; rw [eA _ (by decide)]
  have fF : ∀ f, f ∉ fp_rP → P'.1 f = P.1 f := fun f hf => funext fun a => fP f a hf
  have shk : ∀ s x0, k_Sh Z P U s n → R_sh P U s n S.2 x0 → k_Sh Z P' U s n ∧ R_sh P' U s n S'.2 x0 := fun s x0 hs hS => by
    refine ⟨hs.keep (fP _ _ (by decide)), hS.keep (fun f hf o ho => ?_) (fun o ho => fP2 _ (by rw [(k_th_t E.1 hs ho).2]; decide)) (eA _ (by decide)) (eA _ (by decide)) (eA _ (by decide)) (fun o _ => ⟨by rw [eA _ (by decide)], by rw [eA _ (by decide)], by rw [eA _ (by decide)]⟩) (fun x _ _ => by rw [eA _ (by decide)])⟩
    refine fP f _ ?_
    rcases hf with rfl | rfl | rfl | rfl <;> decide
  refine ⟨E, ?_, shk _ 0 hs hS, shk _ 40 hs5 hS5, ?_, ?_, ?_, ?_, ?_, hmi⟩
  · have := kLg.ext (P' := P') (U' := U) (S' := S') (xs := []) (ch' := ch) (by rw [List.append_nil]) (by simp) (fun x hx => by cases hx) rwe ace (fun f hf y hy => fP f y (by revert f; decide)) (fun j x hx => by cases hx)
      (fun u u1 u2 hus => ⟨rfl, by unfold undw at hus ⊢; rw [est] at hus; exact hus⟩) (fun u u1 u2 hus j hj => ((hL.2.2.2.2.2.2.1 u u1 u2 hus).2.2.2.1 j hj).2.2.1)
    exact this
  · obtain ⟨e1, e2, e3, e4, e5, e6, e7⟩ := kDe
    refine ⟨e1, e2, ?_, fun u u1 u2 v v1 v2 v3 => ?_, ?_, by rw [vv]; exact e6, ?_⟩
    · rw [fF 40 (by decide), fF 41 (by decide), fF 42 (by decide), fF 43 (by decide), fF 44 (by decide), fF 45 (by decide), fF 46 (by decide), fF 47 (by decide), fF 48 (by decide), fF 49 (by decide), fF 50 (by decide), eA 49 (by decide), eA 50 (by decide), est, eA 48 (by decide), eA 51 (by decide), eA 52 (by decide), eA 55 (by decide), eA 56 (by decide), eA 57 (by decide), eA 58 (by decide)]
      exact e3
    · rw [fP2 _ (by rw [(dl_t E e1 u1 u2).2.2]; decide), eA 54 (by decide)]
      rw [eA 51 (by decide)] at v2
      exact e4 u u1 u2 v v1 v2 v3
    · unfold undw ar at e5 ⊢
      rw [fF 51 (by decide), est, eA 42 (by decide)]
      exact e5
    · rw [vv, fF 52 (by decide)]
      exact e7
  · unfold K_en at kEn ⊢
    rw [eA 61 (by decide)]
    exact kEn
  · unfold K_as inp dp o_1 at kAs ⊢
    rw [fF 20 (by decide), fF 21 (by decide), fF 22 (by decide), fF 23 (by decide), fF 25 (by decide), fF 24 (by decide), est, eA 67 (by decide), eA 68 (by decide), eA 69 (by decide), eA 70 (by decide), eA 71 (by decide), eA 7 (by decide)]
    exact kAs
  · have eLV : ∀ ca, LV Z P' ca = LV Z P ca := fun ca => funext fun y => by
      unfold LV
      rw [fF 40 (by decide), fF 61 (by decide), fF 62 (by decide), fF 63 (by decide), fF 64 (by decide), fF 66 (by decide), fF 65 (by decide), fF 47 (by decide), fF 43 (by decide)]
    have eWV : WV Z P' = WV Z P := funext fun y => by
      unfold WV
      rw [fF 40 (by decide), fF 61 (by decide), fF 62 (by decide), fF 63 (by decide), fF 64 (by decide), fF 67 (by decide)]
    unfold K_lk undw at kLk ⊢
    rw [eLV, eWV, vl, vw, fF 180 (by decide), fF 65 (by decide), fF 66 (by decide), fF 61 (by decide), est, eA 4 (by decide), eA 55 (by decide), eA 51 (by decide)]
    exact kLk
  · intro o ho v hv hv2
    rw [eA 97 (by decide)] at hv
    have spt := k_sp_t E.1 tO kLk.1 ho
    obtain ⟨s1, s2, s3, s4⟩ := E.1.spt spt
    rw [fP _ _ (by decide), fP2 _ (by rw [s3]; decide), fP2 _ (by rw [s4]; decide), eA 98 (by decide), eA 99 (by decide)]
    exact kVe o ho v hv hv2
end SV
