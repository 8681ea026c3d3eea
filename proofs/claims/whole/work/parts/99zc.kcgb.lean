/-! the class's side, conjunct by conjunct: what stays -/
section TF
variable {Z Z' : k_Z} {P P' : k_P} {U U' : k_U} {r r' : Nat × Nat} {S S' : m_S} {A : m_A} {N own n b l nl nw nr nr' na ne t i cur c T d : Nat} {ch ch' : Nat → List Nat}
/-- fields of deals, class and reference -/
def prs : List (Nat × Nat) := [(41, 49), (42, 50), (43, 47), (44, 48), (45, 51), (46, 52), (47, 55), (48, 56), (49, 57), (50, 58)]
theorem de_prs : (P.1 41 d = A 49 t ∧ P.1 42 d = A 50 t ∧ P.1 43 d = A 47 t ∧ P.1 44 d = A 48 t ∧ P.1 45 d = A 51 t ∧ P.1 46 d = A 52 t ∧ P.1 47 d = A 55 t ∧ P.1 48 d = A 56 t ∧ P.1 49 d = A 57 t ∧ P.1 50 d = A 58 t) ↔ ∀ p ∈ prs, P.1 p.1 d = A p.2 t := by
  simp only [prs, List.mem_cons, List.not_mem_nil, or_false, forall_eq_or_imp, forall_eq]
theorem K_de.p (h : K_de own b l nr ch P U S) {u : Nat} (h1 : 1 ≤ u) (h2 : u ≤ b) : ∀ p ∈ prs, P.1 p.1 (dl U own u) = S.2 p.2 u := de_prs.mp (h.2.2.1 u h1 h2).2
theorem K_de.cg (h : K_de own b l nr ch P U S) (u14 : U'.2.1 (own + 14) = U.2.1 (own + 14)) (u15 : U'.2.1 (own + 15) = U.2.1 (own + 15)) (hle : nr ≤ nr') (lve : v_lv l S'.2 = v_lv l S.2) (lvm : ∀ u ∈ v_lv l S.2, 1 ≤ u ∧ u ≤ b)
    (num : ∀ u, 1 ≤ u → u ≤ b → ∀ f ∈ [40, 51, 52], P'.1 f (dl U own u) = P.1 f (dl U own u)) (pr : ∀ u, 1 ≤ u → u ≤ b → ∀ p ∈ prs, P'.1 p.1 (dl U own u) = S'.2 p.2 u)
    (lvb : ∀ u, 1 ≤ u → u ≤ b → ∀ v, 1 ≤ v → nI v ≤ S'.2 51 u → v ≤ 4 → P'.2 (dl U own u + 2) v = S'.2 54 (5 * u + v))
    (hc : ∀ u, 1 ≤ u → u ≤ b → undw S'.2 u ∨ S'.2 47 u = 3 → ((undw S.2 u ∨ S.2 47 u = 3) ∧ (undw S'.2 u → undw S.2 u)) ∧ ∀ j ∈ ch' u, (j ∈ ch u ∧ ar S'.2 j = ar S.2 j) ∨ (undw S.2 u ∧ nr ≤ ar S'.2 j)) : K_de own b l nr' ch' P' U' S' := by
  obtain ⟨e1, e2, e3, e4, e5, e6, e7⟩ := h
  have dlU : ∀ u, dl U' own u = dl U own u := fun u => by unfold dl; rw [u14]
  refine ⟨by rw [u14]; exact e1, by rw [u14]; exact e2, fun u u1 u2 => ?_, fun u u1 u2 v v1 v2 v3 => ?_, fun u u1 u2 => ?_, ?_, fun j u hj => ?_⟩
  · rw [dlU]
    exact ⟨by rw [num u u1 u2 _ (by decide)]; exact (e3 u u1 u2).1, de_prs.mpr (pr u u1 u2)⟩
  · rw [dlU]; exact lvb u u1 u2 v v1 v2 v3
  · obtain ⟨f0, f1, f2, f3⟩ := e5 u u1 u2
    refine ⟨f0, f1, by rw [dlU, num u u1 u2 _ (by decide)]; exact f2, fun hus => ?_⟩
    obtain ⟨⟨q1, q3⟩, q2⟩ := hc u u1 u2 hus
    obtain ⟨g1, g2⟩ := f3 q1
    refine ⟨fun z => by have := g1 (q3 z); omega, fun j hj => ?_⟩
    rcases q2 j hj with ⟨z1, z2⟩ | ⟨z0, z⟩
    · rw [z2]; exact g2 j z1
    · have := g1 z0
      omega
  · rw [u15, lve, e6]
    exact List.map_congr_left (fun u _ => (dlU u).symm)
  · rw [lve] at hj
    have hb := lvm u (List.mem_of_getElem? hj)
    rw [dlU, num u hb.1 hb.2 _ (by decide)]
    exact e7 j u hj
theorem K_en.cg (h : K_en own ne U S) (u14 : U'.2.1 (own + 14) = U.2.1 (own + 14)) (u16 : U'.2.1 (own + 16) = U.2.1 (own + 16)) (eo : S'.2 61 = S.2 61) : K_en own ne U' S' := by
  have dlU : ∀ u, dl U' own u = dl U own u := fun u => by unfold dl; rw [u14]
  unfold K_en at h ⊢
  rw [u16, h, eo]
  exact List.map_congr_left (fun e _ => (dlU _).symm)
def fp_as : List Nat := [20, 21, 22, 23, 25, 24]
theorem K_as.cg (h : K_as own b cur P U S) (u14 : U'.2.1 (own + 14) = U.2.1 (own + 14)) {cur' : Nat} (hi : ∀ u, 1 ≤ u → u ≤ b → inp S'.2 cur' u → inp S.2 cur u ∧ (∀ f ∈ fp_as, P'.1 f (dl U own u + 1) = P.1 f (dl U own u + 1)) ∧ ∀ f ∈ [67, 68, 69, 70, 71, 47], S'.2 f u = S.2 f u) (ed : S'.2 7 = S.2 7) : K_as own b cur' P' U' S' := fun u u1 u2 hin => by
  have dlU : ∀ u, dl U' own u = dl U own u := fun u => by unfold dl; rw [u14]
  obtain ⟨q1, q2, q3⟩ := hi u u1 u2 hin
  have := h u u1 u2 q1
  unfold dp o_1 at this ⊢
  rw [dlU, q2 20 (by decide), q2 21 (by decide), q2 22 (by decide), q2 23 (by decide), q2 25 (by decide), q2 24 (by decide), q3 67 (by decide), q3 68 (by decide), q3 69 (by decide), q3 70 (by decide), q3 71 (by decide), q3 47 (by decide), ed]
  exact this
theorem K_ve.cg (h : K_ve own n P U S) (spU : ∀ o, k_sp U' own o = k_sp U own o) (e1 : ∀ o, o < n → P'.1 183 (k_sp U own o) = P.1 183 (k_sp U own o) ∧ P'.2 (k_sp U own o + 3) = P.2 (k_sp U own o + 3) ∧ P'.2 (k_sp U own o + 4) = P.2 (k_sp U own o + 4)) (eA : ∀ f ∈ [97, 98, 99], S'.2 f = S.2 f) : K_ve own n P' U' S' := fun o ho v hv hv2 => by
  rw [eA 97 (by decide)] at hv
  obtain ⟨q1, q2, q3⟩ := e1 o ho
  rw [spU, q1, q2, q3, eA 98 (by decide), eA 99 (by decide)]
  exact h o ho v hv hv2
/-- the rest: fields, where they lie, and the reference's -/
def mis : List (Nat × Nat × Nat) := [(250, 0, 0), (251, 0, 1), (83, 17, 2), (81, 17, 14), (82, 17, 15), (200, 25, 62), (201, 25, 92), (202, 25, 63), (203, 25, 64), (204, 25, 65), (205, 25, 66), (206, 25, 16), (125, 19, 93), (103, 3, 30)]
theorem mi_iff : K_mi own P S ↔ (∀ p ∈ mis, P.1 p.1 (own + p.2.1) = S.1 p.2.2) ∧ P.1 126 (own + 19) = (if S.1 93 = 0 then -9 else S.1 94) ∧ (∀ i, nI i < S.1 93 → i < 12 → P.2 (own + 24) i = S.2 95 i) ∧ (∀ i, nI i < S.1 30 → i < 16 → P.2 (own + 4) i = S.2 31 i) := by
  unfold K_mi
  simp only [mis, List.mem_cons, List.not_mem_nil, or_false, forall_eq_or_imp, forall_eq, Nat.add_zero]
  constructor
  · rintro ⟨a1, a2, a3, a4, a5, a6, a7, a8, a9, b1, b2, b3, b4, b5, b6, b7, b8⟩
    exact ⟨⟨a1, a2, a3, a4, a5, a6, a7, a8, a9, b1, b2, b3, b4, b7⟩, b5, b6, b8⟩
  · rintro ⟨⟨a1, a2, a3, a4, a5, a6, a7, a8, a9, b1, b2, b3, b4, b7⟩, b5, b6, b8⟩
    exact ⟨a1, a2, a3, a4, a5, a6, a7, a8, a9, b1, b2, b3, b4, b5, b6, b7, b8⟩
/-- the rest under steps without rings -/
theorem K_mi.cg (h : K_mi own P S) (hm : ∀ p ∈ mis, (P'.1 p.1 (own + p.2.1) = P.1 p.1 (own + p.2.1) ∧ S'.1 p.2.2 = S.1 p.2.2) ∨ P'.1 p.1 (own + p.2.1) = S'.1 p.2.2) (e1 : P'.1 126 (own + 19) = P.1 126 (own + 19)) (e2 : S'.1 93 = S.1 93) (e3 : S'.1 94 = S.1 94) (e4 : P'.2 (own + 24) = P.2 (own + 24)) (e5 : S'.2 95 = S.2 95) (hb : ∀ i, nI i < S'.1 30 → i < 16 → P'.2 (own + 4) i = S'.2 31 i) : K_mi own P' S' := by
  obtain ⟨q1, q2, q3, q4⟩ := mi_iff.mp h
  refine mi_iff.mpr ⟨fun p hp => ?_, by rw [e1, e2, e3]; exact q2, by rw [e2, e4, e5]; exact q3, hb⟩
  rcases hm p hp with ⟨z1, z2⟩ | z
  · rw [z1, z2]; exact q1 p hp
  · exact z
theorem I_en.cg2 (h : I_en b ne nr ch S) (hle : nr ≤ nr') (rw' : rw_eq nr S.2 S'.2) (new : ∀ j, nr ≤ j → j < nr' → ¬ S'.2 17 j = 4) (eE : S'.1 60 = S.1 60) (eo : S'.2 61 = S.2 61) (er : S'.2 59 = S.2 59) (ec : ∀ t, 1 ≤ t → t ≤ b → S.2 47 t = 3 → ch' t = ch t ∧ ∀ j ∈ ch t, ar S'.2 j = ar S.2 j)
    (en : ∀ t, 1 ≤ t → t ≤ b → S'.2 58 t = S.2 58 t) (st : ∀ t, 1 ≤ t → t ≤ b → (S'.2 47 t = 3 ↔ S.2 47 t = 3)) : I_en b ne nr' ch' S' := by
  obtain ⟨g1, g2, g3, g4, g5, g6, g7⟩ := h
  have cw0 : ∀ j, j ≤ nr → y_cw (S'.2 17) 4 0 j = y_cw (S.2 17) 4 0 j := fun j hj => y_cw_cg j 0 (fun q _ h => (rw' q (by omega)).1)
  refine ⟨eE.trans g1, g2, (cw_cg rw' new nr' hle (Nat.le_refl _)).trans g3, fun e he => ?_, fun u u1 u2 hu => ?_, fun ρ hρ hw => ?_, fun u u1 u2 hu => ?_⟩
  · obtain ⟨u, ρ, a1, a2, a3, a4, a5, a6, a7, a8, a9, b1, b2⟩ := g4 e he
    obtain ⟨r1, r2, _⟩ := rw' ρ a7
    have s3 := (st u a2 a3).mpr a4
    obtain ⟨c1, c2⟩ := ec u a2 a3 a4
    refine ⟨u, ρ, by rw [eo]; exact a1, a2, a3, s3, by rw [en u a2 a3]; exact a5, by rw [er]; exact a6, by omega, by rw [r1]; exact a8, by rw [r2]; exact a9, (cw0 ρ (by omega)).trans b1, fun j hj => ?_⟩
    rw [c1] at hj
    rw [c2 j hj]; exact b2 j hj
  · rw [eo]; exact g5 u u1 u2 ((st u u1 u2).mp hu)
  · by_cases c : ρ < nr
    · obtain ⟨r1, r2, _⟩ := rw' ρ c
      rw [r1] at hw
      rw [eo, r2, cw0 ρ (by omega)]
      exact g6 ρ c hw
    · exact absurd hw (new ρ (by omega) hρ)
  · rw [en u u1 u2]; exact g7 u u1 u2 (fun z => hu ((st u u1 u2).mpr z))
end TF
