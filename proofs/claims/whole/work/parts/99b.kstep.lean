/-! a step of a deal's act: asks, locks and waits, the class's side -/
section SD
variable {Z Z' : k_Z} {P P' : k_P} {U U' : k_U} {r r' : Nat × Nat} {S S' : m_S} {A : m_A} {N own n b l nl nl' nw nw' nr na ne t q' cur cur' c T : Nat} {s' : Int32} {ch : Nat → List Nat}
theorem K_stp (hI : I_all n b l nl nw nr na ne ch cur c T S) (hK : K_all N own n b l nl nw nr ne ch cur Z P U r S) (hkf : kfr Z P U r Z' P' U') (hs : stp t q' s' S S') (h1 : 1 ≤ t) (h2 : t ≤ b) (E' : k_E N own Z' U' r')
    (hc : (cur = t ∧ S.2 47 t = 1) ∨ (cur = 0 ∧ S.2 47 t = 2)) (hc' : (s' = 1 ∧ cur' = t) ∨ (s' = 2 ∧ cur' = 0))
    (est : ∀ u, 1 ≤ u → u ≤ b → P'.1 43 (dl U own u) = S'.2 47 u) (ela : P'.1 205 (own + 25) = S'.1 66)
    (hAs : ∀ u, 1 ≤ u → u ≤ b → u ≠ t → P'.1 24 (dl U own u + 1) = P.1 24 (dl U own u + 1) ∧ P'.1 25 (dl U own u + 1) = P.1 25 (dl U own u + 1))
    (hq2 : q' ≤ 12) (hAt : ∃ sp, P'.1 25 (dl U own t + 1) = nI sp ∧ ((P'.1 24 (dl U own t + 1) = 0 ∧ q' = sp ∧ sp ≤ dp S.2 (o_1 S.2 t) + 1 ∧ (s' = 2 → sp ≤ dp S.2 (o_1 S.2 t))) ∨ (P'.1 24 (dl U own t + 1) = 1 ∧ q' = dp S.2 (o_1 S.2 t) + 1 + sp)))
    {hx : Nat → List Nat} {ex : List v_LT} (eh : ∀ o, o < n → k_hl U' own o = k_hl U own o ++ hx o) (hmx : ∀ o, o < n → (hx o).map (LV Z' P' (if cur' = 0 then own else dl U own cur')) = (v_LO (nI o) ex).map LN)
    (hxc : ∀ o, o < n → ∀ y ∈ hx o, y ∉ k_hl U own o ∧ Z'.2.2 y = dl U own t ∧ P'.1 65 y = S.2 55 t) (hxn : ∀ o, o < n → (hx o).Nodup) (vL : v_L nl' S'.2 = v_L nl S.2 ++ ex)
    (w1 : ∀ o, o < n → (k_ql U' own o).map (WV Z' P') = (v_WO (nI o) (v_W nw' S'.2)).map WN)
    (w2 : ∀ o, o < n → ∀ y ∈ k_ql U' own o, (y ∈ k_ql U own o ∧ Z.2.2 y ≠ dl U own t) ∨ (s' = 2 ∧ Z'.2.2 y = dl U own t ∧ U'.1 (dl U own t) = some y ∧ P'.1 66 y = S.2 51 t ∧ P'.1 65 y = S.2 55 t))
    (w3 : ∀ u, 1 ≤ u → u ≤ b → u ≠ t → U'.1 (dl U own u) = U.1 (dl U own u))
    (w4 : (s' = 1 → U'.1 (dl U own t) = none) ∧ ∀ y, U'.1 (dl U own t) = some y → ∃ o, o < n ∧ y ∈ k_ql U' own o ∧ Z'.2.2 y = dl U own t ∧ P'.1 61 y = nI o)
    (w5 : ∀ o, o < n → ∀ y ∈ k_ql U own o, Z.2.2 y ≠ dl U own t → y ∈ k_ql U' own o) : K_all N own n b l nl' nw' nr ne ch cur' Z' P' U' r' S' := by
  have h12 : s' = 1 ∨ s' = 2 := by
    rcases hc' with z | z
    · exact Or.inl z.1
    · exact Or.inr z.1
  have hu : undw S.2 t := by
    rcases hc with z | z
    · exact Or.inl z.2
    · exact Or.inr z.2
  obtain ⟨k1, k2, k3, k4, k5, k6, k7, dlU, spU, kSp⟩ := K_keep hkf hs h12 hu hI hK est ela
  have un := stp_und hs h12 hu
  obtain ⟨hF, hA, hst, hsg⟩ := hs
  obtain ⟨fZ, fU22, fUL, fP, fP2⟩ := hkf
  obtain ⟨hL, hD, hE, hLk, hV, hM, hP, hX⟩ := hI
  obtain ⟨E, kLg, hs1, hs5, kDe, kEn, kAs, kLk, kVe, kMi⟩ := hK
  obtain ⟨d1, d2, d3, d4, d5, d6, d7, d8, d9, d10, d11⟩ := hD
  obtain ⟨e1, e2, e3, e4, e5, e6, e7⟩ := kDe
  obtain ⟨j1, j2, j3, j4, j5, j6⟩ := kLk
  have tO := E.2.1
  have lt : ∀ a, Z.1 a ≠ 0 → a < r.1 := fun a h => E.lt h
  have dlt : ∀ u, 1 ≤ u → u ≤ b → dl U own u < r.1 ∧ dl U own u + 1 < r.1 ∧ Z.1 (dl U own u) = 3 := fun u u1 u2 => by
    obtain ⟨q1, q2, q3⟩ := dl_t E e1 u1 u2
    exact ⟨lt _ (by rw [q1]; decide), lt _ (by rw [q2]; decide), q1⟩
  have neq : ∀ u, 1 ≤ u → u ≤ b → (dl U own u = dl U own t) = (u = t) := fun u u1 u2 => propext ⟨fun e => dl_inj e1 e2 u1 u2 h1 h2 e, fun e => by rw [e]⟩
  have dno : ∀ u, 1 ≤ u → u ≤ b → ¬ dl U own u = own := fun u u1 u2 e => by
    have := (dlt u u1 u2).2.2
    rw [e, tO] at this
    exact absurd this (by decide)
  have stn : ∀ u, u ≠ t → S'.2 47 u = S.2 47 u := fun u e => by rw [hst, up_n e]
  have stt : S'.2 47 t = s' := by rw [hst, up_s]
  have sgn : ∀ u, u ≠ t → S'.2 71 u = S.2 71 u := fun u e => by rw [hsg, up_n e]
  have sgt : S'.2 71 t = nI q' := by rw [hsg, up_s]
  have spt : ∀ o, o < n → Z.1 (k_sp U own o) = 10 := fun o ho => k_sp_t E.1 tO j1 ho
  have yH : ∀ o y, o < n → y ∈ k_hl U own o → y < r.1 := fun o y ho hy => lt _ (by rw [E.1.llo (E.1.spt (spt o ho)).1 hy]; decide)
  have yQ : ∀ o y, o < n → y ∈ k_ql U own o → y < r.1 := fun o y ho hy => lt _ (by rw [E.1.llo (E.1.spt (spt o ho)).2.1 hy]; decide)
  have inn : ∀ u, 1 ≤ u → u ≠ t → (inp S'.2 cur' u ↔ inp S.2 cur u) := fun u u1 e => by
    unfold inp
    rw [stn u e]
    have a1 : ¬ u = cur := by
      rcases hc with z | z
      · rw [z.1]; exact e
      · rw [z.1]; omega
    have a2 : ¬ u = cur' := by
      rcases hc' with z | z
      · rw [z.2]; exact e
      · rw [z.2]; omega
    exact ⟨fun z => z.elim Or.inl (fun y => absurd y a2), fun z => z.elim Or.inl (fun y => absurd y a1)⟩
  have int0 : inp S.2 cur t := by
    rcases hc with z | z
    · exact Or.inr z.1.symm
    · exact Or.inl z.2
  have edp : ∀ o, dp S'.2 o = dp S.2 o := fun o => by unfold dp; rw [hA _ (by decide)]
  have eo1 : ∀ u, o_1 S'.2 u = o_1 S.2 u := fun u => by unfold o_1; rw [hA 68 (by decide), hA 67 (by decide), hA 70 (by decide)]
  -- the mark of those in the middle of an act
  have mk0 : ∀ u, 1 ≤ u → u ≤ b → (decide (P.1 43 (dl U own u) = 2) || decide (dl U own u = if cur = 0 then own else dl U own cur)) = decide (S.2 47 u = 2 ∨ u = cur) := fun u u1 u2 => by
    rw [(e3 u u1 u2).2.2.2.1, Bool.eq_iff_iff, Bool.or_eq_true, decide_eq_true_eq, decide_eq_true_eq, decide_eq_true_eq]
    have : (dl U own u = if cur = 0 then own else dl U own cur) ↔ u = cur := by
      rcases hc with z | z
      · rw [z.1, if_neg (by omega), neq u u1 u2]
      · rw [z.1, if_pos rfl]
        exact ⟨fun y => absurd y (dno u u1 u2), fun y => by omega⟩
    rw [this]
  have mk1 : ∀ u, 1 ≤ u → u ≤ b → (decide (P'.1 43 (dl U own u) = 2) || decide (dl U own u = if cur' = 0 then own else dl U own cur')) = decide (S'.2 47 u = 2 ∨ u = cur') := fun u u1 u2 => by
    rw [est u u1 u2, Bool.eq_iff_iff, Bool.or_eq_true, decide_eq_true_eq, decide_eq_true_eq, decide_eq_true_eq]
    have : (dl U own u = if cur' = 0 then own else dl U own cur') ↔ u = cur' := by
      rcases hc' with z | z
      · rw [z.2, if_neg (by omega), neq u u1 u2]
      · rw [z.2, if_pos rfl]
        exact ⟨fun y => absurd y (dno u u1 u2), fun y => by omega⟩
    rw [this]
  have int' : inp S'.2 cur' t := by
    rcases hc' with z | z
    · exact Or.inr z.2.symm
    · exact Or.inl (stt.trans z.1)
  have mke : ∀ u, 1 ≤ u → u ≤ b → decide (S'.2 47 u = 2 ∨ u = cur') = decide (S.2 47 u = 2 ∨ u = cur) := fun u u1 u2 => by
    rw [decide_eq_decide]
    by_cases e : u = t
    · subst e; exact ⟨fun _ => int0, fun _ => int'⟩
    · exact inn u u1 e
  have cdl : (if cur' = 0 then own else dl U' own cur') = if cur' = 0 then own else dl U own cur' := by rw [dlU]
  refine ⟨E', k1, k2, k3, k4, k5, fun u u1 u2 hin => ?_, ?_, k6, k7⟩
  · have fA : ∀ f, f ∉ fp_kP → P'.1 f (dl U own u + 1) = P.1 f (dl U own u + 1) := fun f => fP f _ (dlt u u1 u2).2.1
    rw [dlU, fA 20 (by decide), fA 21 (by decide), fA 22 (by decide), fA 23 (by decide), hA 67 (by decide), hA 68 (by decide), hA 69 (by decide), hA 70 (by decide)]
    by_cases e : u = t
    · subst e
      obtain ⟨g1, g2, g3, g4, _⟩ := kAs u u1 u2 int0
      obtain ⟨sp, s1, s2⟩ := hAt
      refine ⟨g1, g2, g3, g4, sp, by omega, s1, ?_⟩
      rw [sgt, edp, eo1]
      rcases s2 with ⟨x1, x2, x3, x4⟩ | ⟨x1, x2⟩
      · exact Or.inl ⟨x1, by rw [x2], x3, fun z => x4 (stt.symm.trans z)⟩
      · exact Or.inr ⟨x1, by rw [x2]⟩
    · rw [(hAs u u1 u2 e).1, (hAs u u1 u2 e).2, sgn u e, stn u e, edp, eo1]
      exact kAs u u1 u2 ((inn u u1 e).mp hin)
  · refine ⟨kSp, fun o ho => ⟨?_, w1 o ho, ?_⟩, fun o ho y hy => ?_, fun o ho y hy => ?_, fun o ho => ?_, fun u u1 u2 => ⟨fun z => ?_, fun y hy => ?_⟩⟩
    · rw [cdl, eh o ho, List.map_append, hmx o ho, vL]
      unfold v_LO
      rw [List.filter_append, List.map_append]
      congr 1
      refine Eq.trans ?_ (j2 o ho).1
      refine List.map_congr_left (fun y hy => ?_)
      obtain ⟨u, q, a1, a2, a3, a4, a5, a6⟩ := j3 o ho y hy
      have yl := yH o y ho hy
      have fY : ∀ f, f ∉ fp_kP → P'.1 f y = P.1 f y := fun f => fP f _ yl
      have fD : ∀ f, f ∉ fp_kP → P'.1 f (dl U own u) = P.1 f (dl U own u) := fun f => fP f _ (dlt u a1 a2).1
      unfold LV
      rw [(fZ y yl).2, a4, mk0 u a1 a2, mk1 u a1 a2, mke u a1 a2, fY 61 (by decide), fY 62 (by decide), fY 63 (by decide), fY 64 (by decide), fY 66 (by decide), fY 65 (by decide), fD 40 (by decide), fD 47 (by decide)]
    · rw [spU, fP _ _ (lt _ (by rw [spt o ho]; decide)) (by decide), hA _ (by decide)]
      exact (j2 o ho).2.2
    · rw [eh o ho, List.mem_append] at hy
      rw [hA 55 (by decide)]
      rcases hy with hy | hy
      · obtain ⟨u, q, a1, a2, a3, a4, a5, a6⟩ := j3 o ho y hy
        have yl := yH o y ho hy
        exact ⟨u, q, a1, a2, (un u).1.mpr a3, by rw [(fZ y yl).2, dlU]; exact a4, by rw [fP _ _ yl (by decide)]; exact a5, a6⟩
      · obtain ⟨x1, x2, x3⟩ := hxc o ho y hy
        obtain ⟨st, lv, m, x, _, _, _, _, _, _, _, _, a9, b1, _⟩ := d3 t h1 h2
        exact ⟨t, x, h1, h2, (un t).1.mpr hu, by rw [dlU]; exact x2, x3.trans a9, by rw [a9, i_cl (by omega)]; exact Nat.le_refl _⟩
    · rw [hA 51 (by decide), hA 55 (by decide)]
      rcases w2 o ho y hy with ⟨x1, x2⟩ | ⟨x1, x2, x3, x4, x5⟩
      · obtain ⟨u, a1, a2, a3, a4, a5, a6, a7⟩ := j4 o ho y x1
        have hne : u ≠ t := fun e => x2 (by rw [a4, e])
        have yl := yQ o y ho x1
        exact ⟨u, a1, a2, by rw [stn u hne]; exact a3, by rw [(fZ y yl).2, dlU]; exact a4, by rw [dlU, w3 u a1 a2 hne]; exact a5, by rw [fP _ _ yl (by decide)]; exact a6, by rw [fP _ _ yl (by decide)]; exact a7⟩
      · exact ⟨t, h1, h2, by rw [stt]; exact x1, by rw [dlU]; exact x2, by rw [dlU]; exact x3, x4, x5⟩
    · rw [eh o ho, List.nodup_append]
      refine ⟨j5 o ho, hxn o ho, fun y hy z hz e => ?_⟩
      subst e
      exact (hxc o ho y hz).1 hy
    · rw [dlU]
      by_cases e : u = t
      · subst e
        rw [stt] at z
        rcases h12 with y | y
        · exact w4.1 y
        · exact absurd y z
      · rw [stn u e] at z
        rw [w3 u u1 u2 e]
        exact (j6 u u1 u2).1 z
    · rw [dlU] at hy ⊢
      by_cases e : u = t
      · subst e; exact w4.2 y hy
      · rw [w3 u u1 u2 e] at hy
        obtain ⟨o, o1, o2, o3, o4⟩ := (j6 u u1 u2).2 y hy
        have yl := yQ o y o1 o2
        exact ⟨o, o1, w5 o o1 y o2 (by rw [o3, ne_eq, neq u u1 u2]; exact e), by rw [(fZ y yl).2]; exact o3, by rw [fP _ _ yl (by decide)]; exact o4⟩
end SD
