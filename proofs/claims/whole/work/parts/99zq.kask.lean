/-! what most calls leave alone -/
section TT
variable {Z : k_Z} {P P' : k_P} {U : k_U} {r : Nat × Nat} {S S1 : m_S} {N own n b l nl nw nr na ne c T t o k cur : Nat} {ch : Nat → List Nat} {a bb : Int32} {X : List Nat}
def fp_4 : List Nat := [140, 141, 142, 143, 144, 145, 146, 147, 148, 149, 220, 221, 222, 223, 161, 183]
def fp_4A : List Nat := [17, 18, 19, 20, 21, 22, 23, 24, 42, 35, 36, 37, 38, 39, 40, 41, 43, 4, 5, 7, 9, 10, 11, 12, 61, 97, 98, 99, 47]
theorem har_of {cur : Nat} (hI : I_all n b l nl nw nr na ne ch cur c T S) : ∀ u, 1 ≤ u → u ≤ b → undw S.2 u ∨ S.2 47 u = 3 → ∀ i ∈ ch u, ar S.2 i < nr := fun u u1 u2 hus j hj => ((hI.1.2.2.2.2.2.2.1 u u1 u2 hus).2.2.2.1 j hj).2.2.1
theorem lvm_of {cur : Nat} (hI : I_all n b l nl nw nr na ne ch cur c T S) : ∀ u ∈ v_lv l S.2, 1 ≤ u ∧ u ≤ b := fun u hu => ⟨((hI.2.1.2.2.2.2.2.2.2.2.1 u).mp hu).1, ((hI.2.1.2.2.2.2.2.2.2.2.1 u).mp hu).2.1⟩
theorem K_four (har : ∀ u, 1 ≤ u → u ≤ b → undw S.2 u ∨ S.2 47 u = 3 → ∀ i ∈ ch u, ar S.2 i < nr) (hK : K_all N own n b l nl nw nr ne ch cur Z P U r S) (hX : ∀ f ∈ fp_4, f ∉ X) (fP : ∀ f a, f ∉ X → P'.1 f a = P.1 f a) (fP2 : ∀ a, Z.1 a ≠ 105 → P'.2 a = P.2 a) (eA : ∀ f ∈ fp_4A, S1.2 f = S.2 f) :
    K_lg own b nr ch P' U S1 ∧ (k_Sh Z P' U (own + 1) n ∧ R_sh P' U (own + 1) n S1.2 0) ∧ (k_Sh Z P' U (own + 5) n ∧ R_sh P' U (own + 5) n S1.2 40) ∧ K_en own ne U S1 ∧ K_ve own n P' U S1 := by
  obtain ⟨E, kLg, ⟨hs, hS⟩, ⟨hs5, hS5⟩, kDe, kEn, kAs, kLk, kVe, kMi⟩ := hK
  have g : ∀ f ∈ fp_4, ∀ a, P'.1 f a = P.1 f a := fun f hf a => fP f a (hX f hf)
  have rwe : rw_eq nr S.2 S1.2 := fun j _ => ⟨by rw [eA _ (by decide)], by rw [eA _ (by decide)], by rw [eA _ (by decide)], by rw [eA _ (by decide)], by rw [eA _ (by decide)], by rw [eA _ (by decide)], by rw [eA _ (by decide)], by rw [eA _ (by decide)]⟩
  have ace : ac_eq S.2 S1.2 := ⟨eA _ (by decide), eA _ (by decide), eA _ (by decide), eA _ (by decide), eA _ (by decide), eA _ (by decide), eA _ (by decide), eA _ (by decide), eA _ (by decide)⟩
  have est := eA 47 (by decide)
  have shk : ∀ s x0, k_Sh Z P U s n → R_sh P U s n S.2 x0 → k_Sh Z P' U s n ∧ R_sh P' U s n S1.2 x0 := fun s x0 hs hS => by
    refine ⟨hs.keep (g _ (by decide) _), hS.keep (fun f hf o _ => g f (by rcases hf with rfl | rfl | rfl | rfl <;> decide) _) (fun o ho => fP2 _ (by rw [(k_th_t E.1 hs ho).2]; decide)) (eA _ (by decide)) (eA _ (by decide)) (eA _ (by decide)) (fun o _ => ⟨by rw [eA _ (by decide)], by rw [eA _ (by decide)], by rw [eA _ (by decide)]⟩) (fun x _ _ => by rw [eA _ (by decide)])⟩
  refine ⟨?_, shk _ _ hs hS, shk _ _ hs5 hS5, kEn.cg rfl rfl (eA _ (by decide)), kVe.cg (fun _ => rfl) (fun o ho => ?_) (fun f hf => eA f (by revert f; decide))⟩
  · exact kLg.ext (xs := []) (by rw [List.append_nil]) (by simp) (fun x hx => by cases hx) rwe ace (fun f hf y _ => g f (by revert f; decide) y) (fun j x hx => by cases hx) (fun u u1 u2 hus => ⟨rfl, by unfold undw at hus ⊢; rw [est] at hus; exact hus⟩) har
  · obtain ⟨s1, s2, s3, s4⟩ := E.1.spt (k_sp_t E.1 E.2.1 kLk.1 ho)
    exact ⟨g _ (by decide) _, fP2 _ (by rw [s3]; decide), fP2 _ (by rw [s4]; decide)⟩
/-- fields of deals, where only one deal and one field is another -/
theorem prs_1 (hD : K_de own b l nr ch P U S) {f0 A0 : Nat} (h0 : (f0, A0) ∈ prs) (h1 : 1 ≤ t) (h2 : t ≤ b) (fP : ∀ u, 1 ≤ u → u ≤ b → ∀ f, (f ≠ f0 ∨ u ≠ t) → f ∈ [41, 42, 43, 44, 45, 46, 47, 48, 49, 50] → P'.1 f (dl U own u) = P.1 f (dl U own u)) (eA : ∀ f u, (f ≠ A0 ∨ u ≠ t) → f ∈ [49, 50, 47, 48, 51, 52, 55, 56, 57, 58] → S1.2 f u = S.2 f u) (new : P'.1 f0 (dl U own t) = S1.2 A0 t) : ∀ u, 1 ≤ u → u ≤ b → ∀ p ∈ prs, P'.1 p.1 (dl U own u) = S1.2 p.2 u := fun u u1 u2 p hp => by
  have m1 : ∀ p ∈ prs, p.1 ∈ [41, 42, 43, 44, 45, 46, 47, 48, 49, 50] ∧ p.2 ∈ [49, 50, 47, 48, 51, 52, 55, 56, 57, 58] := by decide
  have m2 : ∀ p ∈ prs, ∀ q ∈ prs, (p.1 = q.1 ↔ p.2 = q.2) := by decide
  by_cases c : p.1 = f0 ∧ u = t
  · have e2 : p.2 = A0 := (m2 p hp _ h0).mp c.1
    rw [c.1, c.2, e2]; exact new
  · have z1 : p.1 ≠ f0 ∨ u ≠ t := by
      by_cases c1 : p.1 = f0
      · exact Or.inr (fun e => c ⟨c1, e⟩)
      · exact Or.inl c1
    have z2 : p.2 ≠ A0 ∨ u ≠ t := z1.imp (fun h e => h ((m2 p hp _ h0).mpr e)) id
    rw [fP u u1 u2 _ z1 (m1 p hp).1, eA _ u z2 (m1 p hp).2]
    exact hD.p u1 u2 p hp
/-- the ints when an act is asked for -/
def P_a' (P : k_P) (own d : Nat) (o k a bb : Int32) : k_P := k_aSet (k_wr (k_wr P 47 d (P.1 47 d + 1)) 202 (own + 25) (P.1 202 (own + 25) + 1)) (d + 1) o k a bb
theorem K_ask (hI : I_all n b l nl nw nr na ne ch 0 c T S) (hK : K_all N own n b l nl nw nr ne ch 0 Z P U r S) (h1 : 1 ≤ t) (h2 : t ≤ b) (st : S.2 47 t = 1) (hs : askd t o k a bb S S1) : K_all N own n b l nl nw nr ne ch t Z (P_a' P own (dl U own t) (nI o) (nI k) a bb) U r S1 := by
  have hI0 := hI
  obtain ⟨hL, hD, hE, hLk, hV, hM, hP, hX⟩ := hI
  have hK0 := hK
  obtain ⟨E, kLg, ⟨hs1, hS⟩, ⟨hs5, hS5⟩, kDe, kEn, kAs, kLk, kVe, kMi⟩ := hK
  obtain ⟨fA, fF, e0, e1, e2, e3, e4, e5, e6, e7⟩ := hs
  have b400 := hD.1
  obtain ⟨sx, lv, m, x, a1, a2, a3, a4, a5, a6, a7, a8, a9, b1, bs, b2⟩ := hD.2.2.1 t h1 h2
  have fP : ∀ f y, f ∉ [20, 21, 22, 23, 24, 25, 47, 202] → (P_a' P own (dl U own t) (nI o) (nI k) a bb).1 f y = P.1 f y := fun f y h => by
    unfold P_a' k_aSet
    rw [k_rn (nmem h (by decide)), k_rn (nmem h (by decide)), k_rn (nmem h (by decide)), k_rn (nmem h (by decide)), k_rn (nmem h (by decide)), k_rn (nmem h (by decide)), k_rn (nmem h (by decide)), k_rn (nmem h (by decide))]
  have pa1 : (P_a' P own (dl U own t) (nI o) (nI k) a bb).1 47 (dl U own t) = P.1 47 (dl U own t) + 1 := by
    unfold P_a' k_aSet
    rw [k_rn (by decide), k_rn (by decide), k_rn (by decide), k_rn (by decide), k_rn (by decide), k_rn (by decide), k_rn (by decide), k_rs]
  have pa2 : ∀ y, y ≠ dl U own t → (P_a' P own (dl U own t) (nI o) (nI k) a bb).1 47 y = P.1 47 y := fun y hy => by
    unfold P_a' k_aSet
    rw [k_rn (by decide), k_rn (by decide), k_rn (by decide), k_rn (by decide), k_rn (by decide), k_rn (by decide), k_rn (by decide), k_ra hy]
  have pa3 : (P_a' P own (dl U own t) (nI o) (nI k) a bb).1 202 (own + 25) = P.1 202 (own + 25) + 1 := by
    unfold P_a' k_aSet
    rw [k_rn (by decide), k_rn (by decide), k_rn (by decide), k_rn (by decide), k_rn (by decide), k_rn (by decide), k_rs]
  have pa4 : ∀ f, f ∈ fp_as → ∀ y, y ≠ dl U own t + 1 → (P_a' P own (dl U own t) (nI o) (nI k) a bb).1 f y = P.1 f y := fun f hf y hy => by
    have one : ∀ (Q : k_P) (f' : Nat) (v : Int32), (k_wr Q f' (dl U own t + 1) v).1 f y = Q.1 f y := fun Q f' v => by
      by_cases c : f = f'
      · subst c; exact k_ra hy
      · exact k_rn c
    unfold P_a' k_aSet
    rw [one, one, one, one, one, one, k_rn (by clear one; revert f; decide), k_rn (by clear one; revert f; decide)]
  have pa5 : (P_a' P own (dl U own t) (nI o) (nI k) a bb).1 20 (dl U own t + 1) = nI o ∧ (P_a' P own (dl U own t) (nI o) (nI k) a bb).1 21 (dl U own t + 1) = nI k ∧ (P_a' P own (dl U own t) (nI o) (nI k) a bb).1 22 (dl U own t + 1) = a ∧ (P_a' P own (dl U own t) (nI o) (nI k) a bb).1 23 (dl U own t + 1) = bb ∧ (P_a' P own (dl U own t) (nI o) (nI k) a bb).1 24 (dl U own t + 1) = 0 ∧ (P_a' P own (dl U own t) (nI o) (nI k) a bb).1 25 (dl U own t + 1) = 0 := by
    unfold P_a' k_aSet
    refine ⟨?_, ?_, ?_, ?_, ?_, ?_⟩
    · rw [k_rn (by decide), k_rn (by decide), k_rn (by decide), k_rn (by decide), k_rn (by decide), k_rs]
    · rw [k_rn (by decide), k_rn (by decide), k_rn (by decide), k_rn (by decide), k_rs]
    · rw [k_rn (by decide), k_rn (by decide), k_rn (by decide), k_rs]
    · rw [k_rn (by decide), k_rn (by decide), k_rs]
    · rw [k_rn (by decide), k_rs]
    · rw [k_rs]
  have p2 : (P_a' P own (dl U own t) (nI o) (nI k) a bb).2 = P.2 := rfl
  generalize P_a' P own (dl U own t) (nI o) (nI k) a bb = P' at *
  have dne : ∀ u, 1 ≤ u → u ≤ b → u ≠ t → dl U own u ≠ dl U own t := fun u u1 u2 hne e => hne (dl_inj kDe.1 kDe.2.1 u1 u2 h1 h2 e)
  obtain ⟨q1, q2, q3, q4, q5⟩ := K_four (S1 := S1) (har_of hI0) hK0 (X := [20, 21, 22, 23, 24, 25, 47, 202]) (by decide) fP (fun y _ => by rw [p2]) (fun f hf => by
    by_cases c : f = 47
    · rw [c]; exact e7
    · exact fA f (by revert f; decide))
  have lve : v_lv l S1.2 = v_lv l S.2 := by unfold v_lv; rw [fA _ (by decide)]
  have vl : v_L nl S1.2 = v_L nl S.2 := v_L_cg (fun f hf => fA f (by revert f; decide))
  have vw : v_W nw S1.2 = v_W nw S.2 := v_W_cg (fun f hf => fA f (by revert f; decide))
  have as0 := (kDe.2.2.1 t h1 h2).2.2.2.2.2.2.2.1
  refine ⟨E, q1, q2, q3, ?_, q4, fun u u1 u2 hin => ?_, ?_, q5, ?_⟩
  · refine kDe.cg rfl rfl (Nat.le_refl _) lve (fun u hu => ⟨((hD.2.2.2.2.2.2.2.2.1 u).mp hu).1, ((hD.2.2.2.2.2.2.2.2.1 u).mp hu).2.1⟩) (fun u u1 u2 f hf => fP f _ (by revert f; decide)) (prs_1 kDe (f0 := 47) (A0 := 55) (by decide) h1 h2 (fun u u1 u2 f hf hm => ?_) (fun f u hf hm => ?_) ?_) (fun u u1 u2 v v1 v2 v3 => ?_) (fun u u1 u2 hus => ⟨⟨by unfold undw at hus ⊢; rw [e7] at hus; exact hus, fun z => by unfold undw at z ⊢; rw [e7] at z; exact z⟩, fun j hj => Or.inl ⟨hj, by unfold ar; rw [fA _ (by decide)]⟩⟩)
    · by_cases c : f = 47
      · rw [c]; exact pa2 _ (dne u u1 u2 (hf.resolve_left (fun h => h c)))
      · exact fP f _ (by clear hf; revert f; decide)
    · by_cases c : f = 55
      · rw [c, e1, up_n (hf.resolve_left (fun h => h c))]
      · by_cases c2 : f = 47
        · rw [c2, e7]
        · rw [fA f (by clear hf; revert f; decide)]
    · rw [pa1, e1, up_s, as0]
    · rw [p2, fA 54 (by decide)]
      rw [fA 51 (by decide)] at v2
      exact kDe.2.2.2.1 u u1 u2 v v1 v2 v3
  · by_cases c : u = t
    · subst c
      obtain ⟨z1, z2, z3, z4, z5, z6⟩ := pa5
      rw [z1, z2, z3, z4, z5, z6, e2, e3, e4, e5, e6, e7, up_s, up_s, up_s, up_s, up_s, st]
      exact ⟨rfl, rfl, rfl, rfl, 0, by omega, rfl, Or.inl ⟨rfl, rfl, by omega, fun z => absurd z (by decide)⟩⟩
    · have s2 : S.2 47 u = 2 := by
        unfold inp at hin
        rw [e7] at hin
        exact hin.resolve_right c
      have old := kAs u u1 u2 (Or.inl s2)
      have ne1 : dl U own u + 1 ≠ dl U own t + 1 := fun e => dne u u1 u2 c (by omega)
      unfold dp o_1 at old ⊢
      rw [pa4 20 (by decide) _ ne1, pa4 21 (by decide) _ ne1, pa4 22 (by decide) _ ne1, pa4 23 (by decide) _ ne1, pa4 25 (by decide) _ ne1, pa4 24 (by decide) _ ne1, e2, e3, e4, e5, e6, e7, up_n c, up_n c, up_n c, up_n c, up_n c, fA 7 (by decide)]
      exact old
  · obtain ⟨g1, g2, g3, g4, g5, g6⟩ := kLk
    have t0 : ¬ t = 0 := by omega
    refine ⟨g1, fun o' ho' => ⟨?_, ?_, by rw [fP _ _ (by decide), fA _ (by decide)]; exact (g2 o' ho').2.2⟩, fun o' ho' y hy => ?_, fun o' ho' y hy => ?_, g5, fun u u1 u2 => ?_⟩
    · have e := (g2 o' ho').1
      rw [if_pos rfl] at e
      rw [if_neg t0, vl, ← e]
      refine List.map_congr_left (fun y hy => ?_)
      obtain ⟨u, q, c1, c2, c3, c4, c5, c6⟩ := g3 o' ho' y hy
      have nown : ¬ dl U own u = own := fun z => by
        have := (dl_t E kDe.1 c1 c2).1
        rw [z, E.2.1] at this
        exact absurd this (by decide)
      unfold LV
      rw [c4, fP 40 _ (by decide), fP 61 _ (by decide), fP 62 _ (by decide), fP 63 _ (by decide), fP 64 _ (by decide), fP 66 _ (by decide), fP 65 _ (by decide), fP 43 _ (by decide), decide_eq_false nown]
      by_cases cu : u = t
      · subst cu
        rw [pa1, as0, c5, a9, i_a1]
        rw [a9, i_cl (by omega)] at c6
        rw [decide_eq_false (show ¬ nI q = nI (x + 1) from fun z => by rw [i_eq (by omega) (by omega)] at z; omega), Bool.false_and]
        rw [(kDe.2.2.1 u c1 c2).2.2.2.1, st, show decide ((1 : Int32) = 2) = false from by decide, Bool.false_or, Bool.and_false]
      · rw [pa2 _ (dne u c1 c2 cu), decide_eq_false (dne u c1 c2 cu)]
    · rw [vw, ← (g2 o' ho').2.1]
      refine List.map_congr_left (fun y hy => ?_)
      unfold WV
      rw [fP _ _ (by decide), fP _ _ (by decide), fP _ _ (by decide), fP _ _ (by decide), fP _ _ (by decide), fP _ _ (by decide)]
    · obtain ⟨u, q, c1, c2, c3, c4, c5, c6⟩ := g3 o' ho' y hy
      refine ⟨u, q, c1, c2, by unfold undw at c3 ⊢; rw [e7]; exact c3, c4, by rw [fP _ _ (by decide)]; exact c5, ?_⟩
      by_cases cu : u = t
      · subst cu
        rw [e1, up_s, a9, i_a1, i_cl (by omega)]
        rw [a9, i_cl (by omega)] at c6
        omega
      · rw [e1, up_n cu]; exact c6
    · obtain ⟨u, c1, c2, c3, c4, c5, c6, c7⟩ := g4 o' ho' y hy
      have cu : u ≠ t := fun e => by rw [e, st] at c3; exact absurd c3 (by decide)
      exact ⟨u, c1, c2, by rw [e7]; exact c3, c4, c5, by rw [fP _ _ (by decide), fA _ (by decide)]; exact c6, by rw [fP _ _ (by decide), e1, up_n cu]; exact c7⟩
    · obtain ⟨z1, z2⟩ := g6 u u1 u2
      rw [e7]
      refine ⟨z1, fun y hy => ?_⟩
      obtain ⟨o', w1, w2, w3, w4⟩ := z2 y hy
      exact ⟨o', w1, w2, w3, by rw [fP _ _ (by decide)]; exact w4⟩
  · refine kMi.cg (fun p hp => ?_) (fP _ _ (by decide)) (fF _ (by decide) (by decide)) (fF _ (by decide) (by decide)) (by rw [p2]) (fA _ (by decide)) (by rw [p2, fF _ (by decide) (by decide), fA _ (by decide)]; exact (mi_iff.mp kMi).2.2.2)
    by_cases c1 : p = (202, 25, 63)
    · right
      rw [c1]
      show P'.1 202 (own + 25) = S1.1 63
      rw [pa3, e0, (mi_iff.mp kMi).1 (202, 25, 63) (by decide)]
    · left
      exact ⟨fP _ _ (by revert p; decide), fF _ (by revert p; decide) (by revert p; decide)⟩
end TT
