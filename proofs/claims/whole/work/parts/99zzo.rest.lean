/-! rest -/
section UR
variable {g : e_G} {Z Z' : k_Z} {P P' : k_P} {U U' : k_U} {r r' r0 : Nat × Nat} {S S' : m_S} {N own n b l nl nw nr na ne c T x : Nat} {ch : Nat → List Nat}
/-- one row more, which says nothing of acts, objects and ends -/
theorem I_row1 (hI : I_all n b l nl nw nr na ne ch 0 c T S) (hc : c + 1 ≤ 512) (hr : S'.1 13 = nI (nr + 1)) (rw' : rw_eq nr S.2 S'.2) (hw : ¬ S'.2 17 nr = 0 ∧ ¬ S'.2 17 nr = 2 ∧ ¬ S'.2 17 nr = 4) (eA : ∀ f, f ∉ fp_R → S'.2 f = S.2 f) (eF : ∀ f ∈ fp_I, f ≠ 13 → S'.1 f = S.1 f) (hM : I_mi n (nr + 1) S') : I_all n b l nl nw (nr + 1) na ne ch 0 (c + 1) (T + 1) S' := by
  obtain ⟨hL, hD, hE, hK, hV, _, hP, hX⟩ := hI
  have ace : ac_eq S.2 S'.2 := ⟨eA _ (by decide), eA _ (by decide), eA _ (by decide), eA _ (by decide), eA _ (by decide), eA _ (by decide), eA _ (by decide), eA _ (by decide), eA _ (by decide)⟩
  have est := eA 47 (by decide)
  refine ⟨?_, ?_, ?_, ?_, hV.cg (eA _ (by decide)) (eA _ (by decide)) (eA _ (by decide)) (eA _ (by decide)) (eA _ (by decide)), hM, ?_, ?_⟩
  · refine hL.cg hr (by omega) rw' (fun j j1 j2 => ?_) (eF _ (by decide) (by decide)) ace (eA _ (by decide)) (eA _ (by decide)) (eA _ (by decide)) (eA _ (by decide)) (eA _ (by decide)) (eA _ (by decide)) (fun _ _ _ _ => rfl) (fun _ _ _ _ => ⟨by rw [eA _ (by decide)], by rw [eA _ (by decide)]⟩) (fun u _ _ => ⟨fun z => by unfold undw at z ⊢; rw [est] at z; exact z, fun z => Or.inr (by rw [est] at z; exact z)⟩)
    have : j = nr := by omega
    subst this
    exact ⟨row_no hw.1 hw.2.1 hw.2.2, hw.1⟩
  · unfold I_de I_dl v_lv undw inp at hD ⊢
    rw [eF 44 (by decide) (by decide), eF 45 (by decide) (by decide)]
    rw [eA 47 (by decide), eA 48 (by decide), eA 51 (by decide), eA 52 (by decide), eA 55 (by decide), eA 56 (by decide), eA 57 (by decide), eA 46 (by decide), eA 67 (by decide), eA 68 (by decide), eA 71 (by decide), eA 54 (by decide)]
    exact hD
  · refine hE.cg (by omega) rw' (fun j j1 j2 => ?_) (eF _ (by decide) (by decide)) (eA _ (by decide)) (eA _ (by decide)) (eA _ (by decide)) (fun _ _ _ _ => rfl) (fun _ _ _ => by rw [eA _ (by decide)]) (fun u _ _ => by rw [est])
    have : j = nr := by omega
    subst this
    exact hw.2.2
  · have vl : v_L nl S'.2 = v_L nl S.2 := vL_cg (fun f hf => eA f (by clear eA eF; revert f; decide))
    have vw : v_W nw S'.2 = v_W nw S.2 := vW_cg (fun f hf => eA f (by clear eA eF; revert f; decide))
    unfold I_lk I_gh I_l1 I_w1 rem7 dp o_1 kd_1 kd_2 inp undw w_ah at hK ⊢
    rw [vl, vw, eF 72 (by decide) (by decide), eF 80 (by decide) (by decide)]
    rw [eA 47 (by decide), eA 51 (by decide), eA 55 (by decide), eA 67 (by decide), eA 68 (by decide), eA 69 (by decide), eA 70 (by decide), eA 71 (by decide), eA 54 (by decide), eA 86 (by decide), eA 4 (by decide), eA 7 (by decide), eA 36 (by decide), eA 35 (by decide), eA 37 (by decide)]
    exact hK
  · obtain ⟨p1, p2, p3, p4, p5, p6, p7⟩ := hP
    have elv : v_lv l S'.2 = v_lv l S.2 := by unfold v_lv; rw [eA _ (by decide)]
    unfold I_po
    rw [elv, eF 66 (by decide) (by decide), eA 47 (by decide), eA 52 (by decide), eA 55 (by decide), eA 71 (by decide)]
    exact ⟨by omega, by omega, hc, by omega, by omega, by omega, p7⟩
  · unfold I_ak inp at hX ⊢
    rw [eA 47 (by decide), eA 67 (by decide), eA 68 (by decide), eA 69 (by decide), eA 70 (by decide)]
    exact hX
theorem K_row1 (hI : I_all n b l nl nw nr na ne ch 0 c T S) (hK : K_all N own n b l nl nw nr ne ch 0 Z P U r S) (E' : k_E N own Z' U' r') (rw' : rw_eq nr S.2 S'.2) (hw : ¬ S'.2 17 nr = 2) (eA : ∀ f, f ∉ fp_R → S'.2 f = S.2 f) (fZ1 : ∀ a, Z.1 a ≠ 0 → Z'.1 a = Z.1 a) (fZ2 : ∀ a, a < r.1 → Z'.2.2 a = Z.2.2 a) (fP : ∀ f a, a < r.1 → f ∉ [81, 82, 206] → P'.1 f a = P.1 f a) (p2 : ∀ a, a < r.1 → P'.2 a = P.2 a)
    (hx : r.1 ≤ x) (px : lg_row P' x S'.2 nr ∧ (P'.1 149 x = 0 ∨ P'.1 149 x = 1)) (u18 : U'.2.1 (own + 18) = U.2.1 (own + 18) ++ [x]) (uO : ∀ a, a ≠ own + 18 → U'.2.1 a = U.2.1 a) (u22 : U'.2.2 = U.2.2) (u1 : U'.1 = U.1) (hM : K_mi own P' S') : K_all N own n b l nl nw (nr + 1) ne ch 0 Z' P' U' r' S' := by
  have lvm := lvm_of hI
  have har := har_of hI
  obtain ⟨E, kLg, ⟨hs1, hS⟩, ⟨hs5, hS5⟩, kDe, kEn, kAs, kLk, kVe, kMi⟩ := hK
  have tO := E.2.1
  obtain ⟨a1, a2, a3, a4, a5, a6, a7, a8, a9, a10⟩ := E.1.hse tO
  have t18 : Z.1 (own + 18) = 32 := E.1.log a8
  have lt : ∀ a, Z.1 a ≠ 0 → a < r.1 := fun a h => E.lt h
  have spU : ∀ o, k_sp U' own o = k_sp U own o := fun o => by unfold k_sp; rw [u22]
  have thU : ∀ s o, k_th U' s o = k_th U s o := fun s o => by unfold k_th; rw [u22]
  have spt : ∀ o, o < n → Z.1 (k_sp U own o) = 10 := fun o ho => k_sp_t E.1 tO kLk.1 ho
  have ace : ac_eq S.2 S'.2 := ⟨eA _ (by decide), eA _ (by decide), eA _ (by decide), eA _ (by decide), eA _ (by decide), eA _ (by decide), eA _ (by decide), eA _ (by decide), eA _ (by decide)⟩
  have rlt : ∀ y ∈ U.2.1 (own + 18), y < r.1 := fun y hy => lt y (by rw [E.1.lro t18 hy]; decide)
  have est := eA 47 (by decide)
  have dT : ∀ u, 1 ≤ u → u ≤ b → dl U own u < r.1 ∧ dl U own u + 1 < r.1 ∧ dl U own u + 2 < r.1 := fun u u1 u2 => by
    obtain ⟨q1, q2, q3⟩ := dl_t E kDe.1 u1 u2
    exact ⟨lt _ (by rw [q1]; decide), lt _ (by rw [q2]; decide), lt _ (by rw [q3]; decide)⟩
  have shk : ∀ s x0, k_Sh Z P U s n → R_sh P U s n S.2 x0 → k_Sh Z' P' U' s n ∧ R_sh P' U' s n S'.2 x0 := fun s x0 hs hS => by
    have sl' := lt s (by rw [hs.1]; decide)
    have thl : ∀ o, o < n → k_th U s o < r.1 ∧ k_th U s o + 1 < r.1 := fun o ho => by
      obtain ⟨q1, q2⟩ := k_th_t E.1 hs ho
      exact ⟨lt _ (by rw [q1]; decide), lt _ (by rw [q2]; decide)⟩
    exact ⟨⟨(fZ1 s (by rw [hs.1]; decide)).trans hs.1, (fP _ _ sl' (by decide)).trans hs.2.1, hs.2.2.1, fun o ho => by rw [thU, u22]; exact hs.2.2.2 o ho⟩, R_sh.cgU (U := U) (hS.keep (fun f hf o ho => fP f _ (thl o ho).1 (by rcases hf with h | h | h | h <;> subst h <;> decide)) (fun o ho => p2 _ (thl o ho).2) (eA _ (by decide)) (eA _ (by decide)) (eA _ (by decide)) (fun o _ => ⟨by rw [eA _ (by decide)], by rw [eA _ (by decide)], by rw [eA _ (by decide)]⟩) (fun x _ _ => by rw [eA _ (by decide)])) (fun o _ => thU s o)⟩
  have sne : ∀ o, o < n → k_sp U own o + 1 ≠ own + 18 ∧ k_sp U own o + 2 ≠ own + 18 := fun o ho => by
    obtain ⟨s1, s2, _⟩ := E.1.spt (spt o ho)
    exact ⟨fun z => by rw [z, t18] at s1; exact absurd s1 (by decide), fun z => by rw [z, t18] at s2; exact absurd s2 (by decide)⟩
  have lockT : ∀ o y, o < n → y ∈ k_hl U own o ∨ y ∈ k_ql U own o → y < r.1 := fun o y ho hy => by
    rcases hy with hy | hy
    · exact lt y (by rw [E.1.llo (E.1.spt (spt o ho)).1 hy]; decide)
    · exact lt y (by rw [E.1.llo (E.1.spt (spt o ho)).2.1 hy]; decide)
  refine ⟨E', ?_, shk _ _ hs1 hS, shk _ _ hs5 hS5, ?_, ?_, ?_, ?_, ?_, hM⟩
  · exact kLg.ext (xs := [x]) u18 (by simp) (fun y hy => by rw [List.mem_singleton] at hy; intro h; have := rlt y h; omega) rw' ace (fun f hf y hy => fP f y (rlt y hy) (by clear fP eA; revert f; decide)) (fun j y hy => by
      cases j with
      | zero =>
        have ey : x = y := by simpa using hy
        subst ey
        exact ⟨px.1, px.2, hw⟩
      | succ j => simp at hy) (fun u u1 u2 hus => ⟨rfl, by unfold undw at hus ⊢; rw [est] at hus; exact hus⟩) har
  · refine kDe.cg (uO _ (by omega)) (uO _ (by omega)) (by omega) (by unfold v_lv; rw [eA _ (by decide)]) lvm (fun u u1 u2 f hf => fP f _ (dT u u1 u2).1 (by clear fP eA; revert f; decide)) (fun u u1 u2 p hp => ?_) (fun u u1 u2 v v1 v2 v3 => ?_) (fun u u1 u2 hus => ⟨⟨by unfold undw at hus ⊢; rw [est] at hus; exact hus, fun z => by unfold undw at z ⊢; rw [est] at z; exact z⟩, fun j hj => Or.inl ⟨hj, ar_cg ace j⟩⟩)
    · rw [fP _ _ (dT u u1 u2).1 (by clear fP eA; revert p; decide), eA p.2 (by clear fP eA; revert p; decide)]
      exact kDe.p u1 u2 p hp
    · rw [eA _ (by decide)] at v2
      rw [p2 _ (dT u u1 u2).2.2, eA _ (by decide)]
      exact kDe.2.2.2.1 u u1 u2 v v1 v2 v3
  · exact kEn.cg (uO _ (by omega)) (uO _ (by omega)) (eA _ (by decide))
  · refine kAs.cg (uO _ (by omega)) (fun u u1 u2 hin => ⟨by unfold inp at hin ⊢; rw [est] at hin; exact hin, fun f hf => fP f _ (dT u u1 u2).2.1 (by clear fP eA; revert f; decide), fun f hf => by rw [eA f (by clear fP eA; revert f; decide)]⟩) (eA _ (by decide))
  · refine kLk.cgZ (fun f hf => eA f (by clear fP eA; revert f; decide)) (fun _ _ _ _ => by rw [eA _ (by decide)]) (uO _ (by omega)) spU (fun o ho => by rw [spU, u22]; exact kLk.1 o ho) (fun o ho => ?_) (fun o ho => ?_) (fun o y ho hy => ⟨fZ2 y (lockT o y ho hy), fun f hf => fP f y (lockT o y ho hy) (by clear fP eA; revert f; decide)⟩) (fun u u1 u2 f hf => fP f _ (dT u u1 u2).1 (by clear fP eA; revert f; decide)) (fun o ho => fP _ _ (lt _ (by rw [spt o ho]; decide)) (by decide)) (fun u _ _ => by rw [u1])
    · unfold k_hl; rw [spU]; exact uO _ (sne o ho).1
    · unfold k_ql; rw [spU]; exact uO _ (sne o ho).2
  · refine kVe.cg spU (fun o ho => ?_) (fun f hf => eA f (by clear fP eA; revert f; decide))
    obtain ⟨s1, s2, s3, s4⟩ := E.1.spt (spt o ho)
    exact ⟨fP _ _ (lt _ (by rw [spt o ho]; decide)) (by decide), p2 _ (lt _ (by rw [s3]; decide)), p2 _ (lt _ (by rw [s4]; decide))⟩
end UR
