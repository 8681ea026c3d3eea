/-! make: the class beside the reference -/
section VE
variable {Z Z' : k_Z} {P P' : k_P} {U U' : k_U} {r r' : Nat × Nat} {S S' : m_S} {N N' own n b l nl nw nr na ne c T x : Nat} {ch : Nat → List Nat} {so p v d : Int32}
theorem K_make (hI : I_all n b l nl nw nr na ne ch 0 c T S) (hK : K_all N own n b l nl nw nr ne ch 0 Z P U r S) (hl : l = 0) (hn : n < 40) (mk : Mk so p v d n nr S S') (E' : k_E N' own Z' U' r')
    (fP : ∀ f a, Z.1 a ≠ 0 → Z.1 a ≠ 12 → Z.1 a ≠ 10 → Z.1 a ≠ 9 → P'.1 f a = P.1 f a) (fP2 : ∀ a, Z.1 a = 105 ∨ Z.1 a = 112 ∨ a = own + 4 → P'.2 a = P.2 a)
    (sh1 : k_Sh Z' P' U' (own + 1) (n + 1) ∧ R_sh P' U' (own + 1) (n + 1) S'.2 0) (sh5 : k_Sh Z' P' U' (own + 5) (n + 1) ∧ R_sh P' U' (own + 5) (n + 1) S'.2 40) (u1 : U'.1 = U.1) (ul : ∀ a, Z.1 a = 30 → U'.2.1 a = U.2.1 a) (u18 : U'.2.1 (own + 18) = U.2.1 (own + 18) ++ [x]) (hx : r.1 ≤ x) (px : lg_row P' x S'.2 nr ∧ (P'.1 149 x = 0 ∨ P'.1 149 x = 1))
    (sp : k_Sp U' own (n + 1)) (spO : ∀ o, o < n → k_sp U' own o = k_sp U own o ∧ U'.2.1 (k_sp U own o + 1) = U.2.1 (k_sp U own o + 1) ∧ U'.2.1 (k_sp U own o + 2) = U.2.1 (k_sp U own o + 2) ∧ P'.1 180 (k_sp U own o) = P.1 180 (k_sp U own o) ∧ P'.1 183 (k_sp U own o) = P.1 183 (k_sp U own o) ∧ P'.2 (k_sp U own o + 3) = P.2 (k_sp U own o + 3) ∧ P'.2 (k_sp U own o + 4) = P.2 (k_sp U own o + 4))
    (spN : U'.2.1 (k_sp U' own n + 1) = [] ∧ U'.2.1 (k_sp U' own n + 2) = [] ∧ P'.1 180 (k_sp U' own n) = so ∧ P'.1 183 (k_sp U' own n) = 1 ∧ P'.2 (k_sp U' own n + 3) 0 = 0 ∧ P'.2 (k_sp U' own n + 4) 0 = y_dig S'.1 S'.2 (40 + n)) : K_all N' own (n + 1) b l nl nw (nr + 1) ne ch 0 Z' P' U' r' S' := by
  have lvm := lvm_of hI
  have har := har_of hI
  obtain ⟨hL, hD, hE, hLk, hV, hM, hPo, hX⟩ := hI
  obtain ⟨E, kLg, ⟨hs1, hS⟩, ⟨hs5, hS5⟩, kDe, kEn, kAs, kLk, kVe, kMi⟩ := hK
  obtain ⟨eA, eF, m1, m2, m3, rwe, rwn, e1, e2, e3, e4, e5, e6, e7, e8, e9, e10⟩ := mk
  have tO := E.2.1
  obtain ⟨a1, a2, a3, a4, a5, a6, a7, a8, a9, a10⟩ := E.1.hse tO
  have t18 : Z.1 (own + 18) = 32 := E.1.log a8
  have ace : ac_eq S.2 S'.2 := ⟨eA _ (by decide) (by decide), eA _ (by decide) (by decide), eA _ (by decide) (by decide), eA _ (by decide) (by decide), eA _ (by decide) (by decide), eA _ (by decide) (by decide), eA _ (by decide) (by decide), eA _ (by decide) (by decide), eA _ (by decide) (by decide)⟩
  have est := eA 47 (by decide) (by decide)
  have lv0 : v_lv l S.2 = [] := by subst hl; rfl
  have nou : ∀ u, 1 ≤ u → u ≤ b → ¬ undw S.2 u := fun u u1 u2 hu => by
    have := (hD.2.2.2.2.2.2.2.2.1 u).mpr ⟨u1, u2, hu⟩
    rw [lv0] at this
    cases this
  have rT : ∀ y ∈ U.2.1 (own + 18), Z.1 y = 8 := fun y hy => E.1.lro t18 hy
  have u14 := ul (own + 14) a5
  have u15 := ul (own + 15) a6
  have u16 := ul (own + 16) a7
  have dT : ∀ u, 1 ≤ u → u ≤ b → Z.1 (dl U own u) = 3 ∧ Z.1 (dl U own u + 1) = 2 ∧ Z.1 (dl U own u + 2) = 105 := fun u u1 u2 => dl_t E kDe.1 u1 u2
  have dP : ∀ f u, 1 ≤ u → u ≤ b → P'.1 f (dl U own u) = P.1 f (dl U own u) := fun f u u1 u2 => by
    have := (dT u u1 u2).1
    exact fP f _ (by rw [this]; decide) (by rw [this]; decide) (by rw [this]; decide) (by rw [this]; decide)
  have noL : v_L nl S.2 = [] := by
    rw [List.eq_nil_iff_forall_not_mem]
    intro y hy
    obtain ⟨u, o, v, q1, q2, q3, q4, _⟩ := hLk.2.2.2.2.1 y hy
    exact nou u q2 q3 q4
  have noW : v_W nw S.2 = [] := by
    rw [List.eq_nil_iff_forall_not_mem]
    intro y hy
    obtain ⟨u, o, q1, q2, q3, q4, _⟩ := hLk.2.2.2.2.2.1 y hy
    exact nou u q2 q3 (Or.inr q4)
  have vl : v_L nl S'.2 = [] := by rw [← noL]; exact vL_cg (fun f hf => eA f (by clear eA eF fP; revert f; decide) (by clear eA eF fP; revert f; decide))
  have vw : v_W nw S'.2 = [] := by rw [← noW]; exact vW_cg (fun f hf => eA f (by clear eA eF fP; revert f; decide) (by clear eA eF fP; revert f; decide))
  have hl0 : ∀ o, o < n + 1 → k_hl U' own o = [] ∧ k_ql U' own o = [] := fun o ho => by
    unfold k_hl k_ql
    by_cases co : o = n
    · rw [co]; exact ⟨spN.1, spN.2.1⟩
    · obtain ⟨q1, q2, q3, _⟩ := spO o (by omega)
      rw [q1, q2, q3]
      refine ⟨?_, ?_⟩
      · rw [List.eq_nil_iff_forall_not_mem]
        intro y hy
        obtain ⟨u, qq, z1, z2, z3, _⟩ := kLk.2.2.1 o (by omega) y hy
        exact nou u z1 z2 z3
      · rw [List.eq_nil_iff_forall_not_mem]
        intro y hy
        obtain ⟨u, z1, z2, z3, _⟩ := kLk.2.2.2.1 o (by omega) y hy
        exact nou u z1 z2 (Or.inr z3)
  refine ⟨E', ?_, sh1, sh5, ?_, kEn.cg u14 u16 (eA _ (by decide) (by decide)), ?_, ?_, ?_, ?_⟩
  · exact kLg.ext (xs := [x]) u18 (by simp) (fun y hy => by rw [List.mem_singleton] at hy; intro h; have := E.lt (a := y) (by rw [rT y h]; decide); omega) rwe ace (fun f hf y hy => fP f y (by rw [rT y hy]; decide) (by rw [rT y hy]; decide) (by rw [rT y hy]; decide) (by rw [rT y hy]; decide)) (fun j y hy => by
      cases j with
      | zero =>
        have ey : x = y := by simpa using hy
        subst ey
        exact ⟨px.1, px.2, (by rw [rwn.1]; decide : ¬ S'.2 17 nr = 2)⟩
      | succ j => simp at hy) (fun u u1 u2 hus => ⟨rfl, by unfold undw at hus ⊢; rw [est] at hus; exact hus⟩) har
  · refine kDe.cg u14 u15 (by omega) (by unfold v_lv; rw [eA _ (by decide) (by decide)]) lvm (fun u u1 u2 f hf => dP f u u1 u2) (fun u u1 u2 p hp => ?_) (fun u u1 u2 v v1 v2 v3 => ?_) (fun u u1 u2 hus => ⟨⟨by unfold undw at hus ⊢; rw [est] at hus; exact hus, fun z => by unfold undw at z ⊢; rw [est] at z; exact z⟩, fun j hj => Or.inl ⟨hj, ar_cg ace j⟩⟩)
    · rw [dP _ u u1 u2, eA p.2 (by clear eA eF fP; revert p; decide) (by clear eA eF fP; revert p; decide)]
      exact kDe.p u1 u2 p hp
    · rw [eA _ (by decide) (by decide)] at v2
      rw [fP2 _ (Or.inl (dT u u1 u2).2.2), eA _ (by decide) (by decide)]
      exact kDe.2.2.2.1 u u1 u2 v v1 v2 v3
  · intro u u1 u2 hin
    exfalso
    rcases hin with h | h
    · rw [est] at h; exact nou u u1 u2 (Or.inr h)
    · omega
  · refine ⟨sp, fun o ho => ⟨?_, ?_, ?_⟩, fun o ho y hy => ?_, fun o ho y hy => ?_, fun o ho => ?_, fun u u1' u2' => ⟨fun _ => ?_, fun y hy => ?_⟩⟩
    · rw [(hl0 o ho).1, vl]; rfl
    · rw [(hl0 o ho).2, vw]; rfl
    · by_cases co : o = n
      · rw [co, spN.2.2.1, e1, up_s]
      · obtain ⟨q1, q2, q3, q4, _⟩ := spO o (by omega)
        rw [q1, q4, e1, up_n co]
        exact (kLk.2.1 o (by omega)).2.2
    · rw [(hl0 o ho).1] at hy; cases hy
    · rw [(hl0 o ho).2] at hy; cases hy
    · rw [(hl0 o ho).1]; exact List.nodup_nil
    · have dlU : dl U' own u = dl U own u := by unfold dl; rw [u14]
      rw [dlU, u1]
      exact (kLk.2.2.2.2.2 u u1' u2').1 (fun z => nou u u1' u2' (Or.inr z))
    · exfalso
      have dlU : dl U' own u = dl U own u := by unfold dl; rw [u14]
      rw [dlU, u1, (kLk.2.2.2.2.2 u u1' u2').1 (fun z => nou u u1' u2' (Or.inr z))] at hy
      cases hy
  · intro o ho w ew hw
    rw [e8] at ew
    rw [e9, e10]
    by_cases co : o = n
    · subst co
      have w1 : w = 1 := by
        rw [up_s, show (1 : Int32) = nI 1 from rfl, i_eq (by omega) (by omega)] at ew
        exact ew.symm
      subst w1
      refine ⟨by rw [spN.2.2.2.1]; rfl, fun i hi => ?_⟩
      have i0 : i = 0 := by omega
      subst i0
      rw [spN.2.2.2.2.1, spN.2.2.2.2.2, show 401 * o + (1 - min 1 16) + 0 = 401 * o by omega, up_s, up_s]
      exact ⟨rfl, rfl⟩
    · rw [up_n co] at ew
      obtain ⟨q1, q2, q3, q4, q5, q6, q7⟩ := spO o (by omega)
      rw [q1, q5, q6, q7]
      obtain ⟨k1, k2⟩ := kVe o (by omega) w ew hw
      refine ⟨k1, fun i hi => ?_⟩
      have nx : 401 * o + (w - min w 16) + i ≠ 401 * n := by omega
      rw [up_n nx, up_n nx]
      exact k2 i hi
  · have typ : ∀ p ∈ mis, Z.1 (own + p.2.1) ≠ 0 ∧ Z.1 (own + p.2.1) ≠ 12 ∧ Z.1 (own + p.2.1) ≠ 10 ∧ Z.1 (own + p.2.1) ≠ 9 := fun p hp => by
      have : p.2.1 = 0 ∨ p.2.1 = 17 ∨ p.2.1 = 25 ∨ p.2.1 = 19 ∨ p.2.1 = 3 := by clear eA eF fP; revert p; decide
      rcases this with h | h | h | h | h <;> rw [h]
      · rw [Nat.add_zero, tO]; decide
      · rw [a8]; decide
      · rw [a10]; decide
      · rw [a9]; decide
      · rw [show own + 3 = own + 1 + 2 from rfl, (E.1.shf a1).2.1]; decide
    have o24 : Z.1 (own + 24) = 112 := by rw [show own + 24 = own + 19 + 5 from rfl]; exact (E.1.rng a9).2.2.2.2
    refine kMi.cg (fun p hp => Or.inl ⟨fP _ _ (typ p hp).1 (typ p hp).2.1 (typ p hp).2.2.1 (typ p hp).2.2.2, eF _ (by clear typ eA eF fP; revert p; decide)⟩) (fP _ _ (by rw [a9]; decide) (by rw [a9]; decide) (by rw [a9]; decide) (by rw [a9]; decide)) (eF _ (by decide)) (eF _ (by decide)) (fP2 _ (Or.inr (Or.inl o24))) (eA _ (by decide) (by decide)) (fun y y1 y2 => ?_)
    rw [eF _ (by decide)] at y1
    rw [fP2 _ (Or.inr (Or.inr rfl)), eA _ (by decide) (by decide)]
    exact (mi_iff.mp kMi).2.2.2 y y1 y2
end VE
