/-! a step of a deal's act: what stays on the class's side -/
section SC
variable {Z Z' : k_Z} {P P' : k_P} {U U' : k_U} {r r' : Nat × Nat} {S S' : m_S} {A : m_A} {N own n b l nl nw nr na ne t q' cur c T : Nat} {s' : Int32} {ch : Nat → List Nat}
def fp_kP : List Nat := [24, 25, 205, 43]
/-- what a step leaves alone -/
def kfr (Z : k_Z) (P : k_P) (U : k_U) (r : Nat × Nat) (Z' : k_Z) (P' : k_P) (U' : k_U) : Prop := (∀ a, a < r.1 → Z'.1 a = Z.1 a ∧ Z'.2.2 a = Z.2.2 a) ∧ (∀ a, a < r.1 → U'.2.2 a = U.2.2 a) ∧ (∀ a, a < r.1 → Z.1 a ≠ 31 → U'.2.1 a = U.2.1 a) ∧ (∀ f a, a < r.1 → f ∉ fp_kP → P'.1 f a = P.1 f a) ∧ ∀ a, a < r.1 → P'.2 a = P.2 a
theorem K_keep (hk : kfr Z P U r Z' P' U') (hs : stp t q' s' S S') (h12 : s' = 1 ∨ s' = 2) (hu : undw S.2 t) (hI : I_all n b l nl nw nr na ne ch cur c T S) (hK : K_all N own n b l nl nw nr ne ch cur Z P U r S)
    (est : ∀ u, 1 ≤ u → u ≤ b → P'.1 43 (dl U own u) = S'.2 47 u) (ela : P'.1 205 (own + 25) = S'.1 66) :
    K_lg own b nr ch P' U' S' ∧ (k_Sh Z' P' U' (own + 1) n ∧ R_sh P' U' (own + 1) n S'.2 0) ∧ (k_Sh Z' P' U' (own + 5) n ∧ R_sh P' U' (own + 5) n S'.2 40) ∧ K_de own b l nr ch P' U' S' ∧ K_en own ne U' S' ∧ K_ve own n P' U' S' ∧ K_mi own P' S' ∧ (∀ u, dl U' own u = dl U own u) ∧ (∀ o, k_sp U' own o = k_sp U own o) ∧ k_Sp U' own n := by
  have un := stp_und hs h12 hu
  obtain ⟨hF, hA, hst, hsg⟩ := hs
  obtain ⟨fZ, fU22, fUL, fP, fP2⟩ := hk
  obtain ⟨hL, hD, hE, hLk, hV, hM, hP, hX⟩ := hI
  obtain ⟨E, kLg, ⟨hs, hS⟩, ⟨hs5, hS5⟩, kDe, kEn, kAs, kLk, kVe, kMi⟩ := hK
  have tO := E.2.1
  obtain ⟨a1, a2, a3, a4, a5, a6, a7, a8, a9, a10⟩ := E.1.hse tO
  have t18 : Z.1 (own + 18) = 32 := E.1.log a8
  have lt : ∀ a, Z.1 a ≠ 0 → a < r.1 := fun a h => E.lt h
  have u14 : U'.2.1 (own + 14) = U.2.1 (own + 14) := fUL _ (lt _ (by rw [a5]; decide)) (by rw [a5]; decide)
  have u15 : U'.2.1 (own + 15) = U.2.1 (own + 15) := fUL _ (lt _ (by rw [a6]; decide)) (by rw [a6]; decide)
  have u16 : U'.2.1 (own + 16) = U.2.1 (own + 16) := fUL _ (lt _ (by rw [a7]; decide)) (by rw [a7]; decide)
  have u18 : U'.2.1 (own + 18) = U.2.1 (own + 18) := fUL _ (lt _ (by rw [t18]; decide)) (by rw [t18]; decide)
  have dlU : ∀ u, dl U' own u = dl U own u := fun u => by unfold dl; rw [u14]
  have l13 := lt (own + 13) (by rw [a4]; decide)
  have spU : ∀ o, k_sp U' own o = k_sp U own o := fun o => by unfold k_sp; rw [fU22 _ l13]
  have spt : ∀ o, o < n → Z.1 (k_sp U own o) = 10 := fun o ho => k_sp_t E.1 tO kLk.1 ho
  have l2 : own + 1 + 1 < r.1 := lt _ (by rw [(E.1.shf a1).1]; decide)
  have l6 : own + 5 + 1 < r.1 := lt _ (by rw [(E.1.shf a2).1]; decide)
  have lve : v_lv l S'.2 = v_lv l S.2 := by unfold v_lv; rw [hA _ (by decide)]
  have rwe : rw_eq nr S.2 S'.2 := fun j _ => ⟨by rw [hA _ (by decide)], by rw [hA _ (by decide)], by rw [hA _ (by decide)], by rw [hA _ (by decide)], by rw [hA _ (by decide)], by rw [hA _ (by decide)], by rw [hA _ (by decide)], by rw [hA _ (by decide)]⟩
  have ace : ac_eq S.2 S'.2 := ⟨hA _ (by decide), hA _ (by decide), hA _ (by decide), hA _ (by decide), hA _ (by decide), hA _ (by decide), hA _ (by decide), hA _ (by decide), hA _ (by decide)⟩
  obtain ⟨e1, e2, e3, e4, e5, e6, e7⟩ := kDe
  have dlt : ∀ u, 1 ≤ u → u ≤ b → dl U own u < r.1 ∧ dl U own u + 2 < r.1 := fun u u1 u2 => by
    obtain ⟨q1, q2, q3⟩ := dl_t E e1 u1 u2
    exact ⟨lt _ (by rw [q1]; decide), lt _ (by rw [q3]; decide)⟩
  have shk : ∀ s x0, s = own + 1 ∨ s = own + 5 → s + 1 < r.1 → k_Sh Z P U s n → R_sh P U s n S.2 x0 → k_Sh Z' P' U' s n ∧ R_sh P' U' s n S'.2 x0 := fun s x0 hs9 ls hs hS => by
    have t9 : Z.1 s = 9 := by rcases hs9 with z | z <;> rw [z] <;> assumption
    have sl := lt s (by rw [t9]; decide)
    have thl : ∀ o, o < n → k_th U s o < r.1 ∧ k_th U s o + 1 < r.1 := fun o ho => by
      obtain ⟨q1, q2⟩ := k_th_t E.1 hs ho
      exact ⟨lt _ (by rw [q1]; decide), lt _ (by rw [q2]; decide)⟩
    refine ⟨⟨(fZ s sl).1.trans t9, (fP _ _ sl (by decide)).trans hs.2.1, hs.2.2.1, fun o ho => ?_⟩, R_sh.cgU (U := U) ?_ (fun o _ => by unfold k_th; rw [fU22 _ ls])⟩
    · have := hs.2.2.2 o ho
      unfold k_th at this ⊢
      rw [fU22 _ ls]; exact this
    · refine hS.keep (fun f hf o ho => ?_) (fun o ho => fP2 _ (thl o ho).2) (hA _ (by decide)) (hA _ (by decide)) (hA _ (by decide)) (fun o _ => ⟨by rw [hA _ (by decide)], by rw [hA _ (by decide)], by rw [hA _ (by decide)]⟩) (fun x _ _ => by rw [hA _ (by decide)])
      refine fP f _ (thl o ho).1 ?_
      rcases hf with rfl | rfl | rfl | rfl <;> decide
  refine ⟨?_, shk _ 0 (Or.inl rfl) l2 hs hS, shk _ 40 (Or.inr rfl) l6 hs5 hS5, ?_, ?_, ?_, ?_, dlU, spU, fun o ho => by rw [spU, fU22 _ l13]; exact kLk.1 o ho⟩
  · have := kLg.ext (P' := P') (U' := U') (S' := S') (xs := []) (ch' := ch) (by rw [List.append_nil]; exact u18) (by simp) (fun x hx => by cases hx) rwe ace (fun f hf y hy => fP f y (lt _ (by rw [E.1.lro t18 hy]; decide)) (by revert f; decide)) (fun j x hx => by cases hx)
      (fun u u1 u2 hus => ⟨rfl, by rw [← (un u).1, ← (un u).2]; exact hus⟩) (fun u u1 u2 hus j hj => ((hL.2.2.2.2.2.2.1 u u1 u2 hus).2.2.2.1 j hj).2.2.1)
    exact this
  · refine ⟨by rw [u14]; exact e1, by rw [u14]; exact e2, fun u u1 u2 => ?_, fun u u1 u2 v v1 v2 v3 => ?_, fun u u1 u2 => ?_, ?_, fun j u hj => ?_⟩
    · rw [dlU]
      obtain ⟨q1, q2, q3, q4, q5, q6, q7, q8, q9, q10, q11⟩ := e3 u u1 u2
      have pr : ∀ f, f ∉ fp_kP → P'.1 f (dl U own u) = P.1 f (dl U own u) := fun f => fP f _ (dlt u u1 u2).1
      exact ⟨by rw [pr _ (by decide)]; exact q1, by rw [pr _ (by decide), hA _ (by decide)]; exact q2, by rw [pr _ (by decide), hA _ (by decide)]; exact q3, est u u1 u2, by rw [pr _ (by decide), hA _ (by decide)]; exact q5, by rw [pr _ (by decide), hA _ (by decide)]; exact q6, by rw [pr _ (by decide), hA _ (by decide)]; exact q7, by rw [pr _ (by decide), hA _ (by decide)]; exact q8, by rw [pr _ (by decide), hA _ (by decide)]; exact q9, by rw [pr _ (by decide), hA _ (by decide)]; exact q10, by rw [pr _ (by decide), hA _ (by decide)]; exact q11⟩
    · rw [dlU, fP2 _ (dlt u u1 u2).2, hA 54 (by decide)]
      rw [hA 51 (by decide)] at v2
      exact e4 u u1 u2 v v1 v2 v3
    · obtain ⟨f0, f1, f2, f3⟩ := e5 u u1 u2
      refine ⟨f0, f1, by rw [dlU, fP _ _ (dlt u u1 u2).1 (by decide)]; exact f2, fun hus => ?_⟩
      obtain ⟨g1, g2⟩ := f3 (by rw [← (un u).1, ← (un u).2]; exact hus)
      exact ⟨fun z => g1 ((un u).1.mp z), fun j hj => by unfold ar; rw [hA _ (by decide)]; exact g2 j hj⟩
    · rw [u15, lve, e6]
      exact List.map_congr_left (fun u _ => (dlU u).symm)
    · rw [lve] at hj
      have hm : u ∈ v_lv l S.2 := List.mem_of_getElem? hj
      have hb := (hD.2.2.2.2.2.2.2.2.1 u).mp hm
      rw [dlU, fP _ _ (dlt u hb.1 hb.2.1).1 (by decide)]
      exact e7 j u hj
  · unfold K_en at kEn ⊢
    rw [u16, kEn, hA _ (by decide)]
    exact List.map_congr_left (fun e _ => (dlU _).symm)
  · intro o ho v hv hv2
    rw [hA 97 (by decide)] at hv
    obtain ⟨g1, g2⟩ := kVe o ho v hv hv2
    obtain ⟨s1, s2, s3, s4⟩ := E.1.spt (spt o ho)
    rw [spU, fP _ _ (lt _ (by rw [spt o ho]; decide)) (by decide), fP2 _ (lt _ (by rw [s3]; decide)), fP2 _ (lt _ (by rw [s4]; decide)), hA 98 (by decide), hA 99 (by decide)]
    exact ⟨g1, g2⟩
  · obtain ⟨g1, g2, g3, g4, g5, g6, g7, g8, g9, g10, g11, g12, g13, g14, g15, g16, g17⟩ := kMi
    have lo := lt own (by rw [tO]; decide)
    have l17 := lt (own + 17) (by rw [a8]; decide)
    have l25 := lt (own + 25) (by rw [a10]; decide)
    have l19 := lt (own + 19) (by rw [a9]; decide)
    have t24 : Z.1 (own + 24) = 112 := (E.1.rng a9).2.2.2.2
    have t3 := (E.1.shf a1).2
    exact ⟨by rw [fP _ _ lo (by decide), hF _ (by decide)]; exact g1, by rw [fP _ _ lo (by decide), hF _ (by decide)]; exact g2, by rw [fP _ _ l17 (by decide), hF _ (by decide)]; exact g3, by rw [fP _ _ l17 (by decide), hF _ (by decide)]; exact g4, by rw [fP _ _ l17 (by decide), hF _ (by decide)]; exact g5,
      by rw [fP _ _ l25 (by decide), hF _ (by decide)]; exact g6, by rw [fP _ _ l25 (by decide), hF _ (by decide)]; exact g7, by rw [fP _ _ l25 (by decide), hF _ (by decide)]; exact g8, by rw [fP _ _ l25 (by decide), hF _ (by decide)]; exact g9, by rw [fP _ _ l25 (by decide), hF _ (by decide)]; exact g10, ela, by rw [fP _ _ l25 (by decide), hF _ (by decide)]; exact g12,
      by rw [fP _ _ l19 (by decide), hF _ (by decide)]; exact g13, by rw [fP _ _ l19 (by decide), hF 93 (by decide), hF 94 (by decide)]; exact g14, by rw [fP2 _ (lt _ (by rw [t24]; decide)), hF 93 (by decide), hA 95 (by decide)]; exact g15,
      by rw [fP _ _ (lt (own + 3) (by rw [show own + 3 = own + 1 + 2 from rfl, t3.1]; decide)) (by decide), hF _ (by decide)]; exact g16, by rw [fP2 _ (lt (own + 4) (by rw [show own + 4 = own + 1 + 3 from rfl, t3.2]; decide)), hF 30 (by decide), hA 31 (by decide)]; exact g17⟩
end SC
