/-! cut: the class behind it -/
section VY
variable {Z Z' : k_Z} {P Pd P' : k_P} {U Ud U' : k_U} {r r' : Nat × Nat} {S S' : m_S} {N N' own n b l nl nw nr na ne c T ν no ne' : Nat} {ch : Nat → List Nat}
theorem prs_dc : ∀ p ∈ prs, (p.1 ∈ fp_dc → p.2 ∈ fp_cu ∧ dcV p.1 = cuV p.2) ∧ (p.1 ∉ fp_dc → p.1 ∉ fp_pd ∧ p.2 ∉ fp_cu ∧ p.2 ∉ fp_vA ∧ p.1 ≠ 183) ∧ p.1 ≠ 183 := by decide
theorem mis_c : ∀ p ∈ mis, p.1 ≠ 183 ∧ (p.1 = 81 ∧ p.2 = (17, 14) ∨ p.1 = 82 ∧ p.2 = (17, 15) ∨ p.1 = 200 ∧ p.2 = (25, 62) ∨ p.1 = 125 ∧ p.2 = (19, 93) ∨ (p.1 ∉ fp_pd ∧ p.2.2 ∉ fp_ctF ∧ p.2.2 ∉ fp_xF)) ∧ (p.2.1 = 0 ∨ p.2.1 = 17 ∨ p.2.1 = 25 ∨ p.2.1 = 19 ∨ p.2.1 = 3) := by decide
theorem K_cut (hI : I_all n b l nl nw nr na ne ch 0 c T S) (hK : K_all N own n b l nl nw nr ne ch 0 Z P U r S) (hν : ν ≤ nr) (hno : md S.2 ν = no) (hne : y_cw (S.2 17) 4 0 ν = ne') (hd : DD own b l nr ν S P U Pd Ud) (fv : FVv own Z Pd Ud r Z' P' U' r') (E' : k_E N' own Z' U' r') (k5 : k_Sh Z' P' U' (own + 5) no) (R5 : R_sh P' U' (own + 5) no S'.2 40) (k1 : k_Sh Z' P' U' (own + 1) no) (R1 : R_sh P' U' (own + 1) no S'.2 0) (sp : k_Sp U' own no) (spL : ∀ o, o < no → U'.2.1 (k_sp U' own o + 1) = [] ∧ U'.2.1 (k_sp U' own o + 2) = [] ∧ P'.1 180 (k_sp U' own o) = S.2 4 o) (ve : K_ve own no P' U' S')
    (tF : CtF ν no ne' b S S') (eF : ∀ f, f ∉ fp_ctF → f ∉ fp_xF → S'.1 f = S.1 f) (cA : CtA (Cb S ν) b S.2 S'.2) : K_all N' own no b 0 0 0 ν ne' ch 0 Z' P' U' r' S' := by
  have hD := hI.2.1
  have hE := hI.2.2.1
  have b400 := hD.1
  have nr2 : nr ≤ 2000 := by
    obtain ⟨p1, p2, p3, _⟩ := hI.2.2.2.2.2.2.1
    omega
  obtain ⟨E, kLg, _, _, kDe, kEn, kAs, kLk, kVe, kMi⟩ := hK
  have tO := E.2.1
  obtain ⟨a1, a2, a3, a4, a5, a6, a7, a8, a9, a10⟩ := E.1.hse tO
  have t18 : Z.1 (own + 18) = 32 := E.1.log a8
  have t7 : Z.1 (own + 7) = 6 := (E.1.shf a2).2.1
  obtain ⟨v1, v2, v3, v4, v5, v6, v7, v8⟩ := fv
  have hd0 := hd
  obtain ⟨P2, U2, dB, eP, dU1, d22, dO, d15, d16, d18⟩ := hd
  have eA := cA.1
  have pd2 : Pd.2 = P.2 := by rw [eP]; exact dB.2.2.1
  have rT : ∀ y ∈ U.2.1 (own + 18), Z.1 y = 8 := fun y hy => E.1.lro t18 hy
  have rP : ∀ f y, f ∉ fp_pd → f ≠ 183 → Z.1 y = 8 → P'.1 f y = P.1 f y := fun f y hf hv h => by
    rw [v5 f y hv (by rw [h]; decide) (by rw [h]; decide) (by rw [h]; decide) (by rw [h]; decide) (fun z => by rw [z, t7] at h; exact absurd h (by decide))]
    exact hd0.f hf
  have dT : ∀ u, 1 ≤ u → u ≤ b → Z.1 (dl U own u) = 3 ∧ Z.1 (dl U own u + 1) = 2 ∧ Z.1 (dl U own u + 2) = 105 := fun u u1 u2 => dl_t E kDe.1 u1 u2
  have dPd : ∀ f u, 1 ≤ u → u ≤ b → f ≠ 183 → P'.1 f (dl U own u) = Pd.1 f (dl U own u) := fun f u u1 u2 hv => by
    have h := (dT u u1 u2).1
    exact v5 f _ hv (by rw [h]; decide) (by rw [h]; decide) (by rw [h]; decide) (by rw [h]; decide) (fun z => by rw [z, t7] at h; exact absurd h (by decide))
  have w14 : U'.2.1 (own + 14) = U.2.1 (own + 14) := (v4 _ (by rw [a5]; decide) (by rw [a5]; decide)).trans (dO _ (by omega) (by omega) (by omega))
  have w15 : U'.2.1 (own + 15) = [] := (v4 _ (by rw [a6]; decide) (by rw [a6]; decide)).trans d15
  have w16 : U'.2.1 (own + 16) = (U.2.1 (own + 16)).take ne' := by rw [← hne]; exact (v4 _ (by rw [a7]; decide) (by rw [a7]; decide)).trans d16
  have w18 : U'.2.1 (own + 18) = (U.2.1 (own + 18)).take ν := (v4 _ (by rw [t18]; decide) (by rw [t18]; decide)).trans d18
  have dlE : ∀ u, dl U' own u = dl U own u := fun u => by unfold dl; rw [w14]
  have nu : ∀ u, 1 ≤ u → u ≤ b → ¬ undw S'.2 u := fun u u1 u2 => (cut_st hD cA u1 u2).1
  have s3 : ∀ u, 1 ≤ u → u ≤ b → S'.2 47 u = 3 → S.2 47 u = 3 ∧ Cb S ν u = false ∧ ∀ f ∈ fp_cu, S'.2 f u = S.2 f u := fun u u1 u2 => (cut_st hD cA u1 u2).2
  have arE : ∀ j, ar S'.2 j = ar S.2 j := fun j => by unfold ar; rw [eA _ (by decide) (by decide)]
  have l18 : (U.2.1 (own + 18)).length = nr := kLg.1
  have logO : ∀ (ρ y : Nat), (U'.2.1 (own + 18))[ρ]? = some y → (U.2.1 (own + 18))[ρ]? = some y := fun ρ y hy => by
    rw [w18, List.getElem?_take] at hy
    split at hy
    · exact hy
    · cases hy
  refine ⟨E', ?_, ⟨k1, R1⟩, ⟨k5, R5⟩, ?_, ?_, ?_, ?_, ve, ?_⟩
  · obtain ⟨q1, q2, q3, q4, q5⟩ := kLg
    refine ⟨by rw [w18, List.length_take]; omega, by rw [w18]; exact q2.sublist (List.take_sublist _ _), fun i x hx => ?_, fun u u1 u2 hu ρ x hx hw hr => ?_, fun u u1 u2 hu j hj x hx => ?_⟩
    · have hx' := logO i x hx
      have ty := rT x (List.mem_of_getElem? hx')
      have := q3 i x hx'
      unfold lg_row at this ⊢
      rw [rP _ x (by decide) (by decide) ty, rP _ x (by decide) (by decide) ty, rP _ x (by decide) (by decide) ty, rP _ x (by decide) (by decide) ty, rP _ x (by decide) (by decide) ty, rP _ x (by decide) (by decide) ty, rP _ x (by decide) (by decide) ty, rP _ x (by decide) (by decide) ty, rP _ x (by decide) (by decide) ty, eA 17 (by decide) (by decide), eA 18 (by decide) (by decide), eA 19 (by decide) (by decide), eA 20 (by decide) (by decide), eA 21 (by decide) (by decide), eA 22 (by decide) (by decide), eA 23 (by decide) (by decide), eA 24 (by decide) (by decide)]
      exact this
    · have hx' := logO ρ x hx
      have ty := rT x (List.mem_of_getElem? hx')
      rw [eA _ (by decide) (by decide)] at hw hr
      rw [rP _ x (by decide) (by decide) ty]
      simp only [arE]
      exact q4 u u1 u2 (Or.inr (s3 u u1 u2 (hu.resolve_left (nu u u1 u2))).1) ρ x hx' hw hr
    · rw [arE] at hx
      have hx' := logO _ x hx
      have ty := rT x (List.mem_of_getElem? hx')
      rw [rP _ x (by decide) (by decide) ty, eA 36 (by decide) (by decide), eA 40 (by decide) (by decide), eA 41 (by decide) (by decide)]
      exact q5 u u1 u2 (Or.inr (s3 u u1 u2 (hu.resolve_left (nu u u1 u2))).1) j hj x hx'
  · refine ⟨by rw [w14]; exact kDe.1, by rw [w14]; exact kDe.2.1, fun u u1 u2 => ?_, fun u u1 u2 v x1 x2 x3 => ?_, fun u u1 u2 => ?_, by rw [w15]; rfl, fun i u hi => by cases hi⟩
    · rw [dlE]
      refine ⟨by rw [dPd _ u u1 u2 (by decide), hd0.f (by decide)]; exact (kDe.2.2.1 u u1 u2).1, de_prs.mpr (fun p hp => ?_)⟩
      obtain ⟨z1, z2, z3⟩ := prs_dc p hp
      rw [dPd _ u u1 u2 z3]
      have old := kDe.p u1 u2 p hp
      by_cases c1 : p.1 ∈ fp_dc
      · obtain ⟨y1, y2⟩ := z1 c1
        rw [cA.2 _ y1 u]
        by_cases c2 : Cb S ν u = true
        · rw [if_pos ⟨u1, u2, c2⟩, (hd0.d c1).1 u u1 u2 c2 rfl, y2]
        · rw [if_neg (fun w => c2 w.2.2), (hd0.d c1).2 (fun t t1 t2 t3 z => by
            have := dl_inj kDe.1 kDe.2.1 u1 u2 t1 t2 z
            rw [← this] at t3
            exact c2 t3)]
          exact old
      · obtain ⟨y1, y2, y3, _⟩ := z2 c1
        rw [hd0.f y1, eA _ y2 y3]; exact old
    · rw [dlE]
      by_cases c2 : Cb S ν u = true
      · rw [cA.2 51 (by decide) u, if_pos ⟨u1, u2, c2⟩] at x2
        have x2 : nI v ≤ 0 := x2
        rw [show (0 : Int32) = nI 0 from rfl, i_le (by omega) (by omega)] at x2
        omega
      · rw [cA.2 51 (by decide) u, if_neg (fun w => c2 w.2.2)] at x2
        have h := (dT u u1 u2).2.2
        rw [v6 _ (by rw [h]; decide) (by rw [h]; decide) (Or.inl (by rw [h]; decide)), pd2, eA _ (by decide) (by decide)]
        exact kDe.2.2.2.1 u u1 u2 v x1 x2 x3
    · obtain ⟨f0, f1, f2, f3⟩ := kDe.2.2.2.2.1 u u1 u2
      refine ⟨f0, f1, by rw [dlE, dPd _ u u1 u2 (by decide), hd0.f (by decide)]; exact f2, fun hu => ⟨fun z => absurd z (nu u u1 u2), fun j hj => ?_⟩⟩
      rw [arE]
      exact (f3 (Or.inr (s3 u u1 u2 (hu.resolve_left (nu u u1 u2))).1)).2 j hj
  · have nle : ne' ≤ ne := by rw [← hne, ← hE.2.2.1]; exact y_cw_mono hν
    unfold K_en at kEn ⊢
    rw [w16, kEn, ← List.map_take, List.take_range, Nat.min_eq_left nle]
    refine List.map_congr_left (fun e he => ?_)
    rw [dlE, eA _ (by decide) (by decide)]
  · intro u u1 u2 hin
    rcases hin with h | h
    · exact absurd (Or.inr h) (nu u u1 u2)
    · omega
  · refine ⟨sp, fun o ho => ⟨?_, ?_, ?_⟩, fun o ho y hy => ?_, fun o ho y hy => ?_, fun o ho => ?_, fun u u1 u2 => ?_⟩
    · unfold k_hl; rw [(spL o ho).1]; rfl
    · unfold k_ql; rw [(spL o ho).2.1]; rfl
    · rw [(spL o ho).2.2, eA _ (by decide) (by decide)]
    · unfold k_hl at hy; rw [(spL o ho).1] at hy; cases hy
    · unfold k_ql at hy; rw [(spL o ho).2.1] at hy; cases hy
    · unfold k_hl; rw [(spL o ho).1]; exact List.nodup_nil
    · have none : U'.1 (dl U' own u) = none := by
        rw [dlE, v3, dU1]
        by_cases c2 : Cb S ν u = true
        · exact dB.2.2.2.2.1 u u1 u2 c2
        · rw [dB.2.2.2.2.2.1 _ (fun t t1 t2 t3 z => by
            have := dl_inj kDe.1 kDe.2.1 u1 u2 t1 t2 z
            rw [← this] at t3
            exact c2 t3)]
          exact (kLk.2.2.2.2.2 u u1 u2).1 (fun z => c2 ((cb_und hD u1 u2).mpr (Or.inl (Or.inr z))))
      refine ⟨fun _ => none, fun y hy => by rw [none] at hy; cases hy⟩
  · obtain ⟨f1, f2, f3, f4, f5, f6, f7, f8, f9, f10, f11⟩ := tF
    have tg : ∀ k, k = 0 ∨ k = 17 ∨ k = 25 ∨ k = 19 ∨ k = 3 → ∀ f, f ≠ 183 → P'.1 f (own + k) = Pd.1 f (own + k) := fun k hk f hv => by
      have tt : Z.1 (own + k) = 13 ∨ Z.1 (own + k) = 5 ∨ Z.1 (own + k) = 11 ∨ Z.1 (own + k) = 7 ∨ Z.1 (own + k) = 6 := by
        rcases hk with h | h | h | h | h <;> rw [h]
        · exact Or.inl tO
        · exact Or.inr (Or.inl a8)
        · exact Or.inr (Or.inr (Or.inl a10))
        · exact Or.inr (Or.inr (Or.inr (Or.inl a9)))
        · exact Or.inr (Or.inr (Or.inr (Or.inr (E.1.shf a1).2.1)))
      exact v5 f _ hv (by omega) (by omega) (by omega) (by omega) (by omega)
    have o4 : Z.1 (own + 4) = 116 := by rw [show own + 4 = own + 1 + 3 from rfl]; exact (E.1.shf a1).2.2
    obtain ⟨m1, m2, m3, m4⟩ := mi_iff.mp kMi
    refine mi_iff.mpr ⟨fun p hp => ?_, ?_, fun i i1 i2 => ?_, fun i i1 i2 => ?_⟩
    · obtain ⟨z0, z1, z2⟩ := mis_c p hp
      rw [tg _ z2 _ z0]
      rcases z1 with ⟨h, h'⟩ | ⟨h, h'⟩ | ⟨h, h'⟩ | ⟨h, h'⟩ | ⟨h1, h2, h3⟩
      · rw [h, h', eP]
        show (k_fgt (k_fAll P2 (own + 17) ν) (own + 19)).1 81 (own + 17) = S'.1 14
        unfold k_fgt k_fAll
        rw [k_rn (by decide), k_rn (by decide), k_rn (by decide), k_rs, f2]
      · rw [h, h', eP]
        show (k_fgt (k_fAll P2 (own + 17) ν) (own + 19)).1 82 (own + 17) = S'.1 15
        unfold k_fgt k_fAll
        rw [k_rn (by decide), k_rn (by decide), k_rs, f3]
      · have := m1 (200, 25, 62) (by decide)
        rw [h, h', eP]
        show (k_fgt (k_fAll P2 (own + 17) ν) (own + 19)).1 200 (own + 25) = S'.1 62
        unfold k_fgt k_fAll
        rw [k_rn (by decide), k_rn (by decide), k_rn (by decide), k_rn (by decide), dB.2.2.2.1, f7]
        rw [show P.1 200 (own + 25) = S.1 62 from this]
      · rw [h, h', eP]
        show (k_fgt (k_fAll P2 (own + 17) ν) (own + 19)).1 125 (own + 19) = S'.1 93
        unfold k_fgt
        rw [k_rn (by decide), k_rs, f11]
      · rw [hd0.f h1, eF _ h2 h3]; exact m1 p hp
    · rw [tg 19 (by omega) _ (by decide), f11, if_pos rfl, eP]
      unfold k_fgt
      rw [k_rs]
    · rw [f11] at i1
      exact absurd i1 (Int32.not_lt.mpr (nI_pos' (by omega)))
    · rw [eF _ (by decide) (by decide)] at i1
      rw [v6 _ (by rw [o4]; decide) (by rw [o4]; decide) (Or.inr rfl), pd2, eA _ (by decide) (by decide)]
      exact m4 i i1 i2
end VY
