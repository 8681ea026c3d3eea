/-! acts undone: the class's side; backTo -/
section TZ
variable {g : e_G} {Z Z' : k_Z} {P P' : k_P} {U U' : k_U} {r r' r0 : Nat × Nat} {S : m_S} {N own n b l nl nw nr na ne c T t left rem : Nat} {ch : Nat → List Nat}
theorem K_tbA (hI : I_all n b l nl nw nr na ne ch 0 c T S) (hK : K_all N own n b l nl nw nr ne ch 0 Z P U r S) (h1 : 1 ≤ t) (h2 : t ≤ b) (st : S.2 47 t = 1) (hl : (ch t).length = left + rem) (D : D_u N own n b na t (dl U own t) left rem ch nr Z P U r S Z' P' U' r') : K_all N own n b l nl nw (nr + rem) ne (up1 ch t ((ch t).drop rem)) 0 Z' P' U' r' (y_tb t rem S) ∧ U'.2.1 (own + 14) = U.2.1 (own + 14) := by
  obtain ⟨hL, hD, hE, hLk, hV, hM, hP, hX⟩ := hI
  obtain ⟨E, kLg, ⟨hs, hS⟩, ⟨hs5, hS5⟩, kDe, kEn, kAs, kLk, kVe, kMi⟩ := hK
  obtain ⟨⟨E1, hI1, hK1, hs1, hS1⟩, wt, ⟨f1, f2, f3, f4, f5⟩, ea1, ro1⟩ := D
  have tO := E.2.1
  obtain ⟨a1, a2, a3, a4, a5, a6, a7, a8, a9, a10⟩ := E.1.hse tO
  have t18 : Z.1 (own + 18) = 32 := E.1.log a8
  have lt : ∀ a, Z.1 a ≠ 0 → a < r.1 := fun a h => E.lt h
  have fA : ∀ f, f ∉ fp_tb → (y_tb t rem S).2 f = S.2 f := fun f h => ytbm_A h _ _
  have fF : ∀ f, f ≠ 13 → (y_tb t rem S).1 f = S.1 f := fun f h => ytbm_F h _ _
  have mu : ∀ u, u ≠ t → (y_tb t rem S).2 52 u = S.2 52 u := fun u h => (ytbm_u h _ _).1
  have thi := ytbm_hi (t := t) rem S wt
  have est := fA 47 (by decide)
  have mt : (y_tb t rem S).2 52 t = nI left := by
    have := (hI1.2.2.2.2.2.2.1 t h1 h2 (Or.inl (Or.inl (by rw [est]; exact st)))).1
    rw [up1_s, List.length_drop, hl, Nat.add_sub_cancel] at this
    exact this
  generalize y_tb t rem S = S' at *
  have nX : ∀ f a, f ≠ 223 → f ≠ 149 → f ≠ 46 → ¬ X_u U own n (dl U own t) f a := fun f a z1 z2 z3 z => by
    rcases z with z | z | z
    · exact z1 z.1
    · exact z2 z
    · exact z3 z.1
  have fP : ∀ f a, a < r.1 → f ∉ [223, 149, 46] → P'.1 f a = P.1 f a := fun f a ha h => f2 f a ha (nX f a (nmem h (by decide)) (nmem h (by decide)) (nmem h (by decide)))
  have nY : ∀ a, (∀ x, a = x + 1 → Z.1 x ≠ 12) → ¬ Y_u U own n a := fun a h ⟨o, ho, e⟩ => h _ e (k_th_t E.1 hs ho).1
  have u14 : U'.2.1 (own + 14) = U.2.1 (own + 14) := f4 _ (lt _ (by rw [a5]; decide)) (by omega)
  have u15 : U'.2.1 (own + 15) = U.2.1 (own + 15) := f4 _ (lt _ (by rw [a6]; decide)) (by omega)
  have u16 : U'.2.1 (own + 16) = U.2.1 (own + 16) := f4 _ (lt _ (by rw [a7]; decide)) (by omega)
  have l13 := lt (own + 13) (by rw [a4]; decide)
  have spU : ∀ o, k_sp U' own o = k_sp U own o := fun o => by unfold k_sp; rw [(f1 _ l13).2.2]
  have spt : ∀ o, o < n → Z.1 (k_sp U own o) = 10 := fun o ho => k_sp_t E.1 tO kLk.1 ho
  have dlt : ∀ u, 1 ≤ u → u ≤ b → dl U own u < r.1 ∧ dl U own u + 1 < r.1 ∧ dl U own u + 2 < r.1 := fun u u1 u2 => by
    obtain ⟨q1, q2, q3⟩ := dl_t E kDe.1 u1 u2
    exact ⟨lt _ (by rw [q1]; decide), lt _ (by rw [q2]; decide), lt _ (by rw [q3]; decide)⟩
  have dne : ∀ u, 1 ≤ u → u ≤ b → u ≠ t → dl U own u ≠ dl U own t := fun u u1 u2 hne e => hne (dl_inj kDe.1 kDe.2.1 u1 u2 h1 h2 e)
  have lve : v_lv l S'.2 = v_lv l S.2 := by unfold v_lv; rw [fA _ (by decide)]
  have l2 : own + 1 + 1 < r.1 := lt _ (by rw [(E.1.shf a1).1]; decide)
  have l6 : own + 5 + 1 < r.1 := lt _ (by rw [(E.1.shf a2).1]; decide)
  refine ⟨⟨E1, hK1, ⟨hs1, hS1⟩, ⟨⟨(E1.1.hse E1.2.1).2.1, ?_, hs5.2.2.1, fun o ho => ?_⟩, R_sh.cgU (U := U) ?_ (fun o _ => by unfold k_th; rw [(f1 _ l6).2.2])⟩, ?_, kEn.cg u14 u16 (fA _ (by decide)), ?_, ?_, ?_, ?_⟩, u14⟩
  · rw [fP _ _ (lt _ (by rw [a2]; decide)) (by decide)]; exact hs5.2.1
  · have := hs5.2.2.2 o ho
    unfold k_th at this ⊢
    rw [(f1 _ l6).2.2]; exact this
  · have th5 : ∀ o, o < n → k_th U (own + 5) o < r.1 ∧ k_th U (own + 5) o + 1 < r.1 := fun o ho => by
      obtain ⟨q1, q2⟩ := k_th_t E.1 hs5 ho
      exact ⟨lt _ (by rw [q1]; decide), lt _ (by rw [q2]; decide)⟩
    have dj : ∀ o o', o < n → o' < n → k_th U (own + 5) o ≠ k_th U (own + 1) o' := fun o o' ho ho' e => by
      have t5 := (E.1.shf hs5.1).1
      have t1 := (E.1.shf hs.1).1
      have := (E.2.2.2.1 _ o _ o' _ (Or.inl t5) (Or.inl t1) (hs5.2.2.2 o ho) (by rw [e]; exact hs.2.2.2 o' ho')).1
      omega
    refine hS5.keep (fun f hf o ho => f2 f _ (th5 o ho).1 (fun z => ?_)) (fun o ho => f3 _ (th5 o ho).2 (fun ⟨o', ho', e⟩ => dj o o' ho ho' (by omega))) (fA _ (by decide)) (fA _ (by decide)) (fA _ (by decide)) (fun o _ => thi.1 _ (by omega)) (fun x x1 _ => thi.2 x (by omega))
    rcases z with ⟨_, o', ho', e⟩ | z | z
    · exact dj o o' ho ho' e
    · rcases hf with rfl | rfl | rfl | rfl <;> exact absurd z (by decide)
    · rcases hf with rfl | rfl | rfl | rfl <;> exact absurd z.1 (by decide)
  · refine kDe.cg u14 u15 (by omega) lve (fun u hu => ⟨((hD.2.2.2.2.2.2.2.2.1 u).mp hu).1, ((hD.2.2.2.2.2.2.2.2.1 u).mp hu).2.1⟩) (fun u u1 u2 f hf => fP f _ (dlt u u1 u2).1 (by revert f; decide)) (prs_1 kDe (f0 := 46) (A0 := 52) (by decide) h1 h2 (fun u u1 u2 f hf hm => ?_) (fun f u hf hm => ?_) (by rw [ea1, mt])) (fun u u1 u2 w w1 w2 w3 => ?_) (fun u u1 u2 hus => ⟨⟨by unfold undw at hus ⊢; rw [est] at hus; exact hus, fun z => by unfold undw at z ⊢; rw [est] at z; exact z⟩, fun j hj => Or.inl ⟨?_, by unfold ar; rw [fA _ (by decide)]⟩⟩)
    · by_cases c : f = 46
      · refine f2 f _ (dlt u u1 u2).1 (fun z => ?_)
        rcases z with z | z | z
        · rw [c] at z; exact absurd z.1 (by decide)
        · rw [c] at z; exact absurd z (by decide)
        · exact dne u u1 u2 (hf.resolve_left (fun h => h c)) z.2
      · exact fP f _ (dlt u u1 u2).1 (by clear hf; revert f; decide)
    · by_cases c : f = 52
      · rw [c]; exact mu u (hf.resolve_left (fun h => h c))
      · rw [fA f (by clear hf; revert f; decide)]
    · rw [f3 _ (dlt u u1 u2).2.2 (nY _ (fun x e z => ?_)), fA 54 (by decide)]
      · rw [fA 51 (by decide)] at w2
        exact kDe.2.2.2.1 u u1 u2 w w1 w2 w3
      · have : x = dl U own u + 1 := by omega
        rw [this, (dl_t E kDe.1 u1 u2).2.1] at z
        exact absurd z (by decide)
    · by_cases e : u = t
      · subst e
        rw [up1_s] at hj
        exact List.mem_of_mem_drop hj
      · rw [up1_n e] at hj; exact hj
  · exact kAs.cg u14 (fun u u1 u2 hin => ⟨by unfold inp at hin ⊢; rw [est] at hin; exact hin, fun f hf => fP f _ (dlt u u1 u2).2.1 (by revert f; decide), fun f hf => by rw [fA f (by revert f; decide)]⟩) (fA _ (by decide))
  · have s31 : ∀ o, o < n → Z.1 (k_sp U own o + 1) = 31 ∧ Z.1 (k_sp U own o + 2) = 31 := fun o ho => ⟨(E.1.spt (spt o ho)).1, (E.1.spt (spt o ho)).2.1⟩
    refine kLk.cgZ (fun f hf => fA f (by revert f; decide)) (fun u _ _ _ => by rw [fA _ (by decide)]) u14 spU (fun o ho => by rw [spU, (f1 _ l13).2.2]; exact kLk.1 o ho) (fun o ho => ?_) (fun o ho => ?_) (fun o y ho hy => ?_) (fun u u1 u2 f hf => fP f _ (dlt u u1 u2).1 (by revert f; decide)) (fun o ho => fP _ _ (lt _ (by rw [spt o ho]; decide)) (by decide)) (fun u u1 u2 => f5 _ (dlt u u1 u2).1 id)
    · unfold k_hl
      rw [spU]
      exact f4 _ (lt _ (by rw [(s31 o ho).1]; decide)) (fun e => by have := (s31 o ho).1; rw [e, t18] at this; exact absurd this (by decide))
    · unfold k_ql
      rw [spU]
      exact f4 _ (lt _ (by rw [(s31 o ho).2]; decide)) (fun e => by have := (s31 o ho).2; rw [e, t18] at this; exact absurd this (by decide))
    · have yl : Z.1 y = 4 := by
        rcases hy with hy | hy
        · exact E.1.llo (s31 o ho).1 hy
        · exact E.1.llo (s31 o ho).2 hy
      have := lt y (by rw [yl]; decide)
      exact ⟨(f1 y this).2.1, fun f hf => fP f y this (by revert f; decide)⟩
  · refine kVe.cg spU (fun o ho => ?_) (fun f hf => fA f (by revert f; decide))
    obtain ⟨s1, s2, s3, s4⟩ := E.1.spt (spt o ho)
    refine ⟨fP _ _ (lt _ (by rw [spt o ho]; decide)) (by decide), f3 _ (lt _ (by rw [s3]; decide)) (nY _ (fun x e z => ?_)), f3 _ (lt _ (by rw [s4]; decide)) (nY _ (fun x e z => ?_))⟩
    · have : x = k_sp U own o + 2 := by omega
      rw [this, s2] at z; exact absurd z (by decide)
    · have : x = k_sp U own o + 3 := by omega
      rw [this, s3] at z; exact absurd z (by decide)
  · have rg := E.1.rng a9
    have t2r := E.1.shf a1
    have lq : ∀ p ∈ mis, own + p.2.1 < r.1 := by
      simp only [mis, List.mem_cons, List.not_mem_nil, or_false, forall_eq_or_imp, forall_eq]
      have lo := lt own (by rw [tO]; decide)
      have l17 := lt (own + 17) (by rw [a8]; decide)
      have l25 := lt (own + 25) (by rw [a10]; decide)
      have l19 := lt (own + 19) (by rw [a9]; decide)
      have l3 : own + 3 < r.1 := lt _ (by rw [show own + 3 = own + 1 + 2 from rfl, t2r.2.1]; decide)
      exact ⟨lo, lo, l17, l17, l17, l25, l25, l25, l25, l25, l25, l25, l19, l3⟩
    refine kMi.cg (fun p hp => Or.inl ⟨fP _ _ (lq p hp) (by clear lq; revert p; decide), fF _ (by clear lq; revert p; decide)⟩) (fP _ _ (lt _ (by rw [a9]; decide)) (by decide)) (fF _ (by decide)) (fF _ (by decide)) (f3 _ (lt _ (by rw [show own + 24 = own + 19 + 5 from rfl, rg.2.2.2.2]; decide)) (nY _ (fun x e z => ?_))) (fA _ (by decide)) ?_
    · have : x = own + 19 + 4 := by omega
      rw [this, rg.2.2.2.1] at z; exact absurd z (by decide)
    · rw [fF _ (by decide), fA _ (by decide), f3 _ (lt _ (by rw [show own + 4 = own + 1 + 3 from rfl, t2r.2.2]; decide)) (nY _ (fun x e z => ?_))]
      · exact (mi_iff.mp kMi).2.2.2
      · have : x = own + 1 + 2 := by omega
        rw [this, t2r.2.1] at z; exact absurd z (by decide)
theorem t_backTo (hg : e_GK g) (hA : e_AK g) {t x : Int32} : TW g own r0 95 195 [.int t, .int x] := by
  intro c Z P U r S B Ψ hc hV q
  have hV0 := hV
  obtain ⟨N, n, b, l, nl, nw, nr, na, ne, ch, T, hI, hK, hR⟩ := hV
  have b400 := hI.2.1.1
  have tO := hK.1.2.1
  have kDe := hK.2.2.2.2.1
  have hb : S.1 44 = nI b := hI.2.1.2.1
  have fin : ∀ S' y, r_cBackTo t x S y S' → ∀ Z' P' U' r', V own (c + 1) r0 Z' P' U' r' S' → Ψ (some (.int y)) (K_H Z' P' U' (B, r')) := fun S' y e Z' P' U' r' hV' => q y Z' P' U' r' S' hV' (fun M h Φ hq => c_backTo hg e hq)
  refine e_call (cd := cd95) hg ok95 (by rw [mL95]; exact Nat.le_of_ble_eq_true rfl) ?_
  rw [mL95]
  simp only [x_ini, x_inr, x_inn, x_inq, x_inl, x_in0, x_rp0, x_rps, Nat.reduceSub]
  simp (decide := true) (disch := first | assumption | omega) only [↓u95_0, ↓u95_26, ↓u95_28, ↓u95_39, ↓x_nil, ↓x_om, ↓x_aload_0r, ↓x_aload_0n, ↓x_aload_0q, ↓x_iload_1, ↓x_invokevirtual, mt_12_121, x_ps0, x_ps1, x_l40, x_l41, x_l42, x_l43, x_l44, ↓x_cv1, ↓x_astore_3r, ↓x_astore_3n, ↓x_astore_3q, x_cl_i, x_cl_r, x_cl_n, x_cl_q, x_cl_0, x_cl_l, ↓x_aload_3r, ↓x_aload_3n, ↓x_aload_3q, ↓x_ifnull_n, ↓x_ifnull_r, ↓x_ifnull_q, ↓x_iload_2, ↓x_getfield, ft_12_158, ↓x_icmp_gt, mt_12_144, ↓x_cv0, ↓x_icmp_ge, ↓x_iconst_m1, ↓x_ireturn, rt95, ft_12_125, ↓x_iconst_1, ↓x_icmp_eq, ↓x_bipush_m2, mt_12_147, ↓x_cv2, Int.reduceAdd, Nat.reduceAdd, true_and, and_true, true_or, or_true, false_or, or_false, reduceCtorEq, false_and, and_false, and_self, or_self, false_implies, true_implies, not_true_eq_false, not_false_eq_true, implies_true, Option.some.injEq, ki12, kg2, kv2_6, ki2, kv2_3, up_s, up_n]
  refine h_dealOf hg hA hK.1.1 tO (by rw [kDe.1]; omega) ?_
  rcases dO_ok kDe.1 b400 t with ⟨e, hi⟩ | ⟨j, j1, j2, et, e, hi⟩
  · rw [e, k_rfn]
    simp (decide := true) (disch := first | assumption | omega) only [↓u95_0, ↓u95_26, ↓u95_28, ↓u95_39, ↓x_nil, ↓x_om, ↓x_aload_0r, ↓x_aload_0n, ↓x_aload_0q, ↓x_iload_1, ↓x_invokevirtual, mt_12_121, x_ps0, x_ps1, x_l40, x_l41, x_l42, x_l43, x_l44, ↓x_cv1, ↓x_astore_3r, ↓x_astore_3n, ↓x_astore_3q, x_cl_i, x_cl_r, x_cl_n, x_cl_q, x_cl_0, x_cl_l, ↓x_aload_3r, ↓x_aload_3n, ↓x_aload_3q, ↓x_ifnull_n, ↓x_ifnull_r, ↓x_ifnull_q, ↓x_iload_2, ↓x_getfield, ft_12_158, ↓x_icmp_gt, mt_12_144, ↓x_cv0, ↓x_icmp_ge, ↓x_iconst_m1, ↓x_ireturn, rt95, ft_12_125, ↓x_iconst_1, ↓x_icmp_eq, ↓x_bipush_m2, mt_12_147, ↓x_cv2, Int.reduceAdd, Nat.reduceAdd, true_and, and_true, true_or, or_true, false_or, or_false, reduceCtorEq, false_and, and_false, and_self, or_self, false_implies, true_implies, not_true_eq_false, not_false_eq_true, implies_true, Option.some.injEq, ki12, kg2, kv2_6, ki2, kv2_3, up_s, up_n]
    exact fin S (-1) (Or.inl ⟨by rw [hb]; exact hi, rfl, rfl⟩) Z P U r (hV0.next hc)
  · obtain ⟨td, ta, tb⟩ := dl_t hK.1 kDe.1 j1 j2
    have dd := kDe.2.2.1 j j1 j2
    obtain ⟨sx, lv, m, xa, g1, g2, g3, g4, g5, g6, g7, g8, g9, g10, bs, hbs⟩ := hI.2.1.2.2.1 j j1 j2
    have e1 := dd.2.2.2.1
    have e2 : P.1 45 (dl U own j) = nI lv := (dd.2.2.2.2.2.1).trans g4
    have e3 : P.1 46 (dl U own j) = nI m := (dd.2.2.2.2.2.2.1).trans g7
    -- where its level begins
    obtain ⟨bb, hbb, ebb, ebc⟩ : ∃ bb, bb ≤ m ∧ (if lv = 0 then bb = 0 else S.2 54 (5 * j + lv) = nI bb) ∧ k_lvM P (dl U own j) lv = nI bb := by
      by_cases c0 : lv = 0
      · exact ⟨0, by omega, by rw [if_pos c0], by unfold k_lvM; rw [if_neg (by omega)]; rfl⟩
      · obtain ⟨y1, y2, _⟩ := hbs lv (by omega) (Nat.le_refl _)
        exact ⟨bs lv, y2, by rw [if_neg c0]; exact y1, by unfold k_lvM; rw [if_pos (by omega), kDe.2.2.2.1 j j1 j2 lv (by omega) (by rw [g4]; exact Int32.le_refl _) g5]; exact y1⟩
    have base : ∀ y S', ((y_isIn x (nI bb) (nI m) = false ∧ y = -1 ∧ S' = S) ∨ (y_isIn x (nI bb) (nI m) = true ∧ ¬ S.2 47 j = 1 ∧ y = -2 ∧ S' = S) ∨ ∃ z, x = nI z ∧ bb ≤ z ∧ z ≤ m ∧ S.2 47 j = 1 ∧ w_tb j (m - z) S ∧ S' = y_tb j (m - z) S ∧ y = nI (m - z)) → r_cBackTo t x S y S' := fun y S' h => Or.inr ⟨j, lv, bb, m, by omega, et, by rw [hb]; exact hi, g4, g5, ebb, by omega, by omega, g7, h⟩
    have noin : ¬ (nI bb ≤ x ∧ x ≤ nI m) → y_isIn x (nI bb) (nI m) = false := fun z => by
      cases h : y_isIn x (nI bb) (nI m)
      · rfl
      · exfalso; apply z; unfold y_isIn at h; simpa using h
    rw [e, k_rfs]
    simp (decide := true) (disch := first | assumption | omega) only [↓u95_0, ↓u95_26, ↓u95_39, ↓x_nil, ↓x_om, ↓x_aload_0r, ↓x_aload_0n, ↓x_aload_0q, ↓x_iload_1, ↓x_invokevirtual, mt_12_121, x_ps0, x_ps1, x_l40, x_l41, x_l42, x_l43, x_l44, ↓x_cv1, ↓x_astore_3r, ↓x_astore_3n, ↓x_astore_3q, x_cl_i, x_cl_r, x_cl_n, x_cl_q, x_cl_0, x_cl_l, ↓x_aload_3r, ↓x_aload_3n, ↓x_aload_3q, ↓x_ifnull_n, ↓x_ifnull_r, ↓x_ifnull_q, ↓x_iload_2, ↓x_getfield, ft_12_158, ↓x_icmp_gt, mt_12_144, ↓x_cv0, ↓x_icmp_ge, ↓x_iconst_m1, ↓x_ireturn, rt95, ft_12_125, ↓x_iconst_1, ↓x_icmp_eq, ↓x_bipush_m2, mt_12_147, ↓x_cv2, Int.reduceAdd, Nat.reduceAdd, true_and, and_true, true_or, or_true, false_or, or_false, reduceCtorEq, false_and, and_false, and_self, or_self, false_implies, true_implies, not_true_eq_false, not_false_eq_true, implies_true, Option.some.injEq, e3, ki12, kg2, kv2_6, ki2, kv2_3, up_s, up_n]
    refine ⟨fun cg => fin S (-1) (base _ S (Or.inl ⟨noin (fun z => absurd z.2 (Int32.not_le.mpr cg)), rfl, rfl⟩)) Z P U r (hV0.next hc), fun cg => h_levelMark hg (l := lv) (by omega) e2 td tb ?_⟩
    rw [ebc]
    simp (decide := true) (disch := first | assumption | omega) only [↓u95_0, ↓u95_26, ↓u95_39, ↓x_nil, ↓x_om, ↓x_aload_0r, ↓x_aload_0n, ↓x_aload_0q, ↓x_iload_1, ↓x_invokevirtual, mt_12_121, x_ps0, x_ps1, x_l40, x_l41, x_l42, x_l43, x_l44, ↓x_cv1, ↓x_astore_3r, ↓x_astore_3n, ↓x_astore_3q, x_cl_i, x_cl_r, x_cl_n, x_cl_q, x_cl_0, x_cl_l, ↓x_aload_3r, ↓x_aload_3n, ↓x_aload_3q, ↓x_ifnull_n, ↓x_ifnull_r, ↓x_ifnull_q, ↓x_iload_2, ↓x_getfield, ft_12_158, ↓x_icmp_gt, mt_12_144, ↓x_cv0, ↓x_icmp_ge, ↓x_iconst_m1, ↓x_ireturn, rt95, ft_12_125, ↓x_iconst_1, ↓x_icmp_eq, ↓x_bipush_m2, mt_12_147, ↓x_cv2, Int.reduceAdd, Nat.reduceAdd, true_and, and_true, true_or, or_true, false_or, or_false, reduceCtorEq, false_and, and_false, and_self, or_self, false_implies, true_implies, not_true_eq_false, not_false_eq_true, implies_true, Option.some.injEq, ki12, kg2, kv2_6, ki2, kv2_3, up_s, up_n]
    refine ⟨fun cm => ?_, fun cm => fin S (-1) (base _ S (Or.inl ⟨noin (fun z => cm z.1), rfl, rfl⟩)) Z P U r (hV0.next hc)⟩
    have hin : y_isIn x (nI bb) (nI m) = true := in_tr cm (Int32.not_lt.mp cg)
    obtain ⟨z, z1, z2, ez⟩ := i_inR (lo := bb) (hi := m) (by omega) (by omega) hin
    rw [u95_28]
    simp (decide := true) (disch := first | assumption | omega) only [↓u95_0, ↓u95_26, ↓u95_28, ↓x_nil, ↓x_om, ↓x_aload_0r, ↓x_aload_0n, ↓x_aload_0q, ↓x_iload_1, ↓x_invokevirtual, mt_12_121, x_ps0, x_ps1, x_l40, x_l41, x_l42, x_l43, x_l44, ↓x_cv1, ↓x_astore_3r, ↓x_astore_3n, ↓x_astore_3q, x_cl_i, x_cl_r, x_cl_n, x_cl_q, x_cl_0, x_cl_l, ↓x_aload_3r, ↓x_aload_3n, ↓x_aload_3q, ↓x_ifnull_n, ↓x_ifnull_r, ↓x_ifnull_q, ↓x_iload_2, ↓x_getfield, ft_12_158, ↓x_icmp_gt, mt_12_144, ↓x_cv0, ↓x_icmp_ge, ↓x_iconst_m1, ↓x_ireturn, rt95, ft_12_125, ↓x_iconst_1, ↓x_icmp_eq, ↓x_bipush_m2, mt_12_147, ↓x_cv2, Int.reduceAdd, Nat.reduceAdd, true_and, and_true, true_or, or_true, false_or, or_false, reduceCtorEq, false_and, and_false, and_self, or_self, false_implies, true_implies, not_true_eq_false, not_false_eq_true, implies_true, Option.some.injEq, e1, ki12, kg2, kv2_6, ki2, kv2_3, up_s, up_n]
    refine ⟨fun st => ?_, fun st => fin S (-2) (base _ S (Or.inr (Or.inl ⟨hin, st, rfl, rfl⟩))) Z P U r (hV0.next hc)⟩
    rw [u95_39]
    simp (decide := true) (disch := first | assumption | omega) only [↓u95_0, ↓u95_26, ↓u95_28, ↓u95_39, ↓x_nil, ↓x_om, ↓x_aload_0r, ↓x_aload_0n, ↓x_aload_0q, ↓x_iload_1, ↓x_invokevirtual, mt_12_121, x_ps0, x_ps1, x_l40, x_l41, x_l42, x_l43, x_l44, ↓x_cv1, ↓x_astore_3r, ↓x_astore_3n, ↓x_astore_3q, x_cl_i, x_cl_r, x_cl_n, x_cl_q, x_cl_0, x_cl_l, ↓x_aload_3r, ↓x_aload_3n, ↓x_aload_3q, ↓x_ifnull_n, ↓x_ifnull_r, ↓x_ifnull_q, ↓x_iload_2, ↓x_getfield, ft_12_158, ↓x_icmp_gt, mt_12_144, ↓x_cv0, ↓x_icmp_ge, ↓x_iconst_m1, ↓x_ireturn, rt95, ft_12_125, ↓x_iconst_1, ↓x_icmp_eq, ↓x_bipush_m2, mt_12_147, ↓x_cv2, Int.reduceAdd, Nat.reduceAdd, true_and, and_true, true_or, or_true, false_or, or_false, reduceCtorEq, false_and, and_false, and_self, or_self, false_implies, true_implies, not_true_eq_false, not_false_eq_true, implies_true, Option.some.injEq, ki12, kg2, kv2_6, ki2, kv2_3, up_s, up_n]
    rw [ez]
    have hu : undw S.2 j := Or.inl st
    have hch := hI.1.2.2.2.2.2.2.1 j j1 j2 (Or.inl hu)
    have ml : m = (ch j).length := by
      have h := hch.1
      have h6 := hch.2.1
      rw [g7, i_eq (by omega) (by omega)] at h
      exact h
    obtain ⟨wt, hI2⟩ := I_tbA (left := z) (rem := m - z) hI j1 j2 st (by omega) (fun lv' el hl4 w w1 w2 => by
      have el' : lv' = lv := by rw [g4, i_eq (by omega) (by omega)] at el; exact el.symm
      subst el'
      obtain ⟨y1, y2, y3⟩ := hbs w w1 w2
      obtain ⟨y4, y5, _⟩ := hbs lv' (by omega) (Nat.le_refl _)
      have := y3 lv' w2 (Nat.le_refl _)
      rw [if_neg (by omega), y4, i_eq (by omega) (by omega)] at ebb
      rw [y1, i_cl (by omega)]
      omega)
    obtain ⟨f0, f1, f2, f3⟩ := kDe.2.2.2.2.1 j j1 j2
    have nrl : nr + (m - z) ≤ 1400 := by
      have q1 := hI2.2.2.2.2.2.2.1.1
      have q2 := hI2.2.2.2.2.2.2.1.2.1
      have q3 := hI2.2.2.2.2.2.2.1.2.2.1
      omega
    refine s_undoActs hg hA (left := z) (rem := m - z) (f0 := f0) b400 j1 j2 ⟨hK.1, hI.1, hK.2.1, hK.2.2.1.1, hK.2.2.1.2⟩ hu td dd.1 (by rw [e3, show z + (m - z) = m by omega]) f2 f1 (f3 (Or.inl hu)).2 (by omega) nrl (fun Z1 P1 U1 r1 D => ?_)
    obtain ⟨hK2, e14⟩ := K_tbA hI hK j1 j2 st (by omega) D
    simp (decide := true) (disch := first | assumption | omega) only [↓u95_0, ↓u95_26, ↓u95_28, ↓u95_39, ↓x_nil, ↓x_om, ↓x_aload_0r, ↓x_aload_0n, ↓x_aload_0q, ↓x_iload_1, ↓x_invokevirtual, mt_12_121, x_ps0, x_ps1, x_l40, x_l41, x_l42, x_l43, x_l44, ↓x_cv1, ↓x_astore_3r, ↓x_astore_3n, ↓x_astore_3q, x_cl_i, x_cl_r, x_cl_n, x_cl_q, x_cl_0, x_cl_l, ↓x_aload_3r, ↓x_aload_3n, ↓x_aload_3q, ↓x_ifnull_n, ↓x_ifnull_r, ↓x_ifnull_q, ↓x_iload_2, ↓x_getfield, ft_12_158, ↓x_icmp_gt, mt_12_144, ↓x_cv0, ↓x_icmp_ge, ↓x_iconst_m1, ↓x_ireturn, rt95, ft_12_125, ↓x_iconst_1, ↓x_icmp_eq, ↓x_bipush_m2, mt_12_147, ↓x_cv2, Int.reduceAdd, Nat.reduceAdd, true_and, and_true, true_or, or_true, false_or, or_false, reduceCtorEq, false_and, and_false, and_self, or_self, false_implies, true_implies, not_true_eq_false, not_false_eq_true, implies_true, Option.some.injEq, ki12, kg2, kv2_6, ki2, kv2_3, up_s, up_n]
    exact fin _ (nI (m - z)) (base _ _ (Or.inr (Or.inr ⟨z, ez, z1, z2, st, wt, rfl, rfl⟩))) Z1 P1 U1 r1 ⟨N, n, b, l, nl, nw, nr + (m - z), na, ne, _, T + (m - z), hI2.next hc, hK2, hR.step D.2.2.2.2 (dL := 0) (by rw [ytbm_F (by decide)]; rfl) (by omega) (by omega)⟩
end TZ
