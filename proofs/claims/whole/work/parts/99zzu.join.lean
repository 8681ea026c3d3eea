/-! join: the reference's side -/
section UX
variable {S S' : m_S} {A : m_A} {n b l nl nw nr na ne c T t v : Nat} {ch : Nat → List Nat}
theorem jnR_ok {tt vv : Int32} {o : Nat → Int32} : ∀ (m k : Nat) (f : Nat → Int32) (q : Nat), y_jnR tt vv k m o f q = if k ≤ q ∧ q < k + m ∧ o q = tt ∧ f q = vv then f q - 1 else f q
  | 0, k, f, q => by rw [y_jnR, if_neg (by omega)]
  | m + 1, k, f, q => by
    rw [y_jnR, jnR_ok m (k + 1)]
    by_cases cq : q = k
    · subst cq
      rw [if_neg (fun z => by omega), up_s]
      by_cases cc : o q = tt ∧ f q = vv
      · rw [if_pos cc, if_pos ⟨by omega, by omega, cc⟩]
      · rw [if_neg cc, if_neg (fun z => cc z.2.2), Int32.sub_eq_add_neg, Int32.neg_zero, Int32.add_zero]
    · rw [up_n cq]
      by_cases cc : k ≤ q ∧ q < k + (m + 1) ∧ o q = tt ∧ f q = vv
      · rw [if_pos cc, if_pos ⟨by omega, by omega, cc.2.2⟩]
      · rw [if_neg cc, if_neg (fun z => cc ⟨by omega, by omega, z.2.2⟩)]
/-- a lock of the level that goes is of the level below -/
def lw (t v : Nat) (x : v_LT) : v_LT := (x.1, x.2.1, x.2.2.1, x.2.2.2.1, x.2.2.2.2.1, if x.1 = nI t ∧ x.2.2.2.2.2.1 = nI (v + 1) then nI v else x.2.2.2.2.2.1, x.2.2.2.2.2.2)
theorem vL_low (h : S'.2 78 = y_jnR (nI t) (nI (v + 1)) 0 nl (S.2 73) (S.2 78)) (eA : ∀ f ∈ [73, 74, 75, 76, 77, 79], S'.2 f = S.2 f) : v_L nl S'.2 = (v_L nl S.2).map (lw t v) := by
  unfold v_L
  rw [List.map_map]
  refine List.map_congr_left (fun k hk => ?_)
  have hk' := List.mem_range.mp hk
  show v_k S'.2 k = lw t v (v_k S.2 k)
  unfold v_k lw
  dsimp only
  rw [h, jnR_ok, eA _ (by decide), eA _ (by decide), eA _ (by decide), eA _ (by decide), eA _ (by decide), eA _ (by decide)]
  by_cases c : S.2 73 k = nI t ∧ S.2 78 k = nI (v + 1)
  · rw [if_pos c, if_pos ⟨by omega, by omega, c⟩, c.2, i_s1 (by omega)]
    rfl
  · rw [if_neg c, if_neg (fun z => c z.2.2)]
theorem I_join (hI : I_all n b l nl nw nr na ne ch 0 c T S) (h1 : 1 ≤ t) (h2 : t ≤ b) (st : S.2 47 t = 1) (ev : S.2 51 t = nI (v + 1)) (hv : v < 4) (eF : S'.1 = S.1) (eA : ∀ f, f ≠ 51 → f ≠ 78 → S'.2 f = S.2 f) (eL : S'.2 51 = va_up (S.2 51) t (nI v)) (vL : v_L nl S'.2 = (v_L nl S.2).map (lw t v)) : I_all n b l nl nw nr na ne ch 0 c T S' := by
  obtain ⟨hL, hD, hE, hK, hV, hM, hP, hX⟩ := hI
  have b400 := hD.1
  have rwe : rw_eq nr S.2 S'.2 := fun j _ => ⟨by rw [eA _ (by decide) (by decide)], by rw [eA _ (by decide) (by decide)], by rw [eA _ (by decide) (by decide)], by rw [eA _ (by decide) (by decide)], by rw [eA _ (by decide) (by decide)], by rw [eA _ (by decide) (by decide)], by rw [eA _ (by decide) (by decide)], by rw [eA _ (by decide) (by decide)]⟩
  have ace : ac_eq S.2 S'.2 := ⟨eA _ (by decide) (by decide), eA _ (by decide) (by decide), eA _ (by decide) (by decide), eA _ (by decide) (by decide), eA _ (by decide) (by decide), eA _ (by decide) (by decide), eA _ (by decide) (by decide), eA _ (by decide) (by decide), eA _ (by decide) (by decide)⟩
  have est := eA 47 (by decide) (by decide)
  have un : ∀ u, undw S'.2 u ↔ undw S.2 u := fun u => by unfold undw; rw [est]
  have lve : v_lv l S'.2 = v_lv l S.2 := by unfold v_lv; rw [eA _ (by decide) (by decide)]
  have vw : v_W nw S'.2 = v_W nw S.2 := v_W_cg (fun f hf => eA f (by clear eA; revert f; decide) (by clear eA; revert f; decide))
  have mem : ∀ y, y ∈ v_L nl S'.2 → ∃ x ∈ v_L nl S.2, lw t v x = y := fun y hy => by rw [vL] at hy; exact List.mem_map.mp hy
  refine ⟨?_, ?_, ?_, ?_, hV.cg (eA _ (by decide) (by decide)) (eA _ (by decide) (by decide)) (eA _ (by decide) (by decide)) (eA _ (by decide) (by decide)) (eA _ (by decide) (by decide)), hM.cg (Nat.le_refl _) (fun f hf => by rw [eF]) (eA _ (by decide) (by decide)), ?_, fun u u1 u2 hin => ?_⟩
  · exact hL.cg (by rw [eF]; exact hL.1) (Nat.le_refl _) rwe (fun j j1 j2 => by omega) (by rw [eF]) ace (eA _ (by decide) (by decide)) (eA _ (by decide) (by decide)) (eA _ (by decide) (by decide)) (eA _ (by decide) (by decide)) (eA _ (by decide) (by decide)) (eA _ (by decide) (by decide)) (fun _ _ _ _ => rfl) (fun u _ _ _ => ⟨by rw [eA _ (by decide) (by decide)], by rw [eA _ (by decide) (by decide)]⟩) (fun u _ _ => ⟨(un u).mp, fun z => Or.inr (by rw [est] at z; exact z)⟩)
  · obtain ⟨d1, d2, d3, d4, d5, d6, d7, d8, d9, d10, d11⟩ := hD
    refine ⟨d1, by rw [eF]; exact d2, fun u u1 u2 => ?_, fun u u1 u2 => ?_, by rw [eF]; exact d5, d6, fun i hi => by rw [eA _ (by decide) (by decide)]; exact d7 i hi, by rw [lve]; exact d8, fun u => by rw [lve, d9 u, un u], Or.inl rfl, fun u u1 u2 hin => ?_⟩
    · obtain ⟨s, lv, m, x, a1, a2, a3, a4, a5, a6, a7, a8, a9, b1, bs, b2⟩ := d3 u u1 u2
      by_cases e : u = t
      · subst e
        have lv' : lv = v + 1 := by rw [ev, i_eq (by omega) (by omega)] at a4; exact a4.symm
        subst lv'
        refine ⟨s, v, m, x, by rw [est]; exact a1, a2, a3, by rw [eL, up_s], by omega, fun z => by have := a6 z; omega, by rw [eA _ (by decide) (by decide)]; exact a7, a8, by rw [eA _ (by decide) (by decide)]; exact a9, b1, bs, fun w w1 w2 => ?_⟩
        obtain ⟨y1, y2, y3⟩ := b2 w w1 (by omega)
        exact ⟨by rw [eA _ (by decide) (by decide)]; exact y1, y2, fun w' z1 z2 => y3 w' z1 (by omega)⟩
      · exact ⟨s, lv, m, x, by rw [est]; exact a1, a2, a3, by rw [eL, up_n e]; exact a4, a5, a6, by rw [eA _ (by decide) (by decide)]; exact a7, a8, by rw [eA _ (by decide) (by decide)]; exact a9, b1, bs, fun w w1 w2 => by rw [eA _ (by decide) (by decide)]; exact b2 w w1 w2⟩
    · have ne : u ≠ t := by omega
      obtain ⟨z1, z2, z3, z4, z5, z6, z7⟩ := d4 u u1 u2
      exact ⟨by rw [est]; exact z1, by rw [eA _ (by decide) (by decide)]; exact z2, by rw [eL, up_n ne]; exact z3, by rw [eA _ (by decide) (by decide)]; exact z4, by rw [eA _ (by decide) (by decide)]; exact z5, by rw [eA _ (by decide) (by decide)]; exact z6, by rw [eA _ (by decide) (by decide)]; exact z7⟩
    · obtain ⟨o', k', q', c1, c2, c3, c4, c5⟩ := d11 u u1 u2 (by unfold inp at hin ⊢; rw [est] at hin; exact hin)
      exact ⟨o', k', q', by rw [eA _ (by decide) (by decide)]; exact c1, by rw [eA _ (by decide) (by decide)]; exact c2, c3, by rw [eA _ (by decide) (by decide)]; exact c4, c5⟩
  · exact hE.cg (Nat.le_refl _) rwe (fun j j1 j2 => by omega) (by rw [eF]) (eA _ (by decide) (by decide)) (eA _ (by decide) (by decide)) (eA _ (by decide) (by decide)) (fun _ _ _ _ => rfl) (fun u _ _ => by rw [eA _ (by decide) (by decide)]) (fun u _ _ => by rw [est])
  · obtain ⟨k1, k2, k3, k4, k5, k6, k7, k8, k9, k10, k11, ⟨kq, G, k13⟩, k12⟩ := hK
    refine ⟨by rw [eF]; exact k1, by rw [eF]; exact k2, k3, by unfold w_ah; rw [eA _ (by decide) (by decide)]; exact k4, fun y hy => ?_, ?_, by rw [vw]; exact k7, fun u u1 u2 z => ?_, fun x hx y hy => ?_, ?_, fun u u1 u2 z => ?_, ⟨fun x hx y hy => ?_, G, fun u u1 u2 z => ?_⟩, fun u u1 u2 hu p i hpi hkk => ?_⟩
    · obtain ⟨x, x1, rfl⟩ := mem y hy
      obtain ⟨u, o', w, c1, c2, c3, c4, c5, c6, c7, c8, c9, g1, g2, g3⟩ := k5 x x1
      have g3' := g3.imp id (fun z => (⟨z.1, by have := z.2; unfold inp at this ⊢; rw [est]; exact this⟩ : x.2.2.2.2.2.2 = 1 ∧ inp S'.2 0 u))
      by_cases e : x.1 = nI t ∧ x.2.2.2.2.2.1 = nI (v + 1)
      · have eu : u = t := by
          have := e.1
          rw [c1, i_eq (by omega) (by omega)] at this
          exact this
        subst eu
        refine ⟨u, o', v, c1, c2, c3, (un u).mpr c4, c5, c6, c7, c8, ?_, by omega, ?_, g3'⟩
        · unfold lw; dsimp only; rw [if_pos e]
        · rw [eL, up_s]; exact Int32.le_refl _
      · refine ⟨u, o', w, c1, c2, c3, (un u).mpr c4, c5, c6, c7, c8, ?_, g1, ?_, g3'⟩
        · unfold lw; dsimp only; rw [if_neg e]; exact c9
        · by_cases eu : u = t
          · subst eu
            rw [ev, i_le (by omega) (by omega)] at g2
            have : w ≠ v + 1 := fun z => e ⟨c1, by rw [c9, z]⟩
            rw [eL, up_s, i_le (by omega) (by omega)]
            omega
          · rw [eL, up_n eu]; exact g2
    · unfold I_w1 dp o_1 at k6 ⊢
      rw [vw, est, eA 68 (by decide) (by decide), eA 71 (by decide) (by decide), eA 7 (by decide) (by decide), eA 67 (by decide) (by decide), eA 69 (by decide) (by decide), eA 70 (by decide) (by decide)]
      exact k6
    · rw [vw]; exact k8 u u1 u2 (by rw [← est]; exact z)
    · obtain ⟨x', x1, rfl⟩ := mem x hx
      obtain ⟨y', y1, rfl⟩ := mem y hy
      rw [eA 4 (by decide) (by decide)]
      exact k9 x' x1 y' y1
    · rw [vL, List.pairwise_map]; exact k10
    · have q1 := k11 u u1 u2 ((un u).mp z)
      have q2 : (xl u (v_L nl S'.2)).length = (xl u (v_L nl S.2)).length := by
        rw [vL]
        unfold xl
        rw [List.filter_map, List.length_map]
        rfl
      have q3 : rem7 S'.2 0 u = rem7 S.2 0 u := by
        unfold rem7 dp o_1
        rw [est, eA 68 (by decide) (by decide), eA 71 (by decide) (by decide), eA 7 (by decide) (by decide), eA 67 (by decide) (by decide), eA 70 (by decide) (by decide)]
      rw [q3, q2, eA 55 (by decide) (by decide)]
      exact q1
    · rw [vw] at hx
      obtain ⟨y', y1, rfl⟩ := mem y hy
      exact kq x hx y' y1
    · obtain ⟨j1, j2, j3, j4⟩ := k13 u u1 u2 ((un u).mp z)
      have q1 : kd_1 S'.2 u = kd_1 S.2 u := by unfold kd_1; rw [eA 68 (by decide) (by decide), eA 67 (by decide) (by decide), eA 70 (by decide) (by decide)]
      have q2 : kd_2 S'.2 u = kd_2 S.2 u := by unfold kd_2; rw [eA 68 (by decide) (by decide), eA 67 (by decide) (by decide), eA 70 (by decide) (by decide)]
      rw [vw, q1, q2, eA 55 (by decide) (by decide), eA 69 (by decide) (by decide)]
      refine ⟨j1, fun x hx => ?_, j3, fun w => j4 (by unfold inp at w ⊢; rw [est] at w; exact w)⟩
      obtain ⟨x', x1, rfl⟩ := mem x hx
      exact j2 x' x1
    · rw [ace.2.2.1] at hkk
      obtain ⟨x, x1, x2, x3, x4, x5, x6, x9, w, w4, x7, x8⟩ := k12 u u1 u2 ((un u).mp hu) p i hpi hkk
      have ml : lw t v x ∈ v_L nl S'.2 := by rw [vL]; exact List.mem_map_of_mem x1
      by_cases e : x.1 = nI t ∧ x.2.2.2.2.2.1 = nI (v + 1)
      · have eu : u = t := by
          have := e.1
          rw [x2, i_eq (by omega) (by omega)] at this
          exact this
        have ew : w = v + 1 := by
          have := e.2
          rw [x7, i_eq (by omega) (by omega)] at this
          exact this
        subst eu
        subst ew
        refine ⟨lw u v x, ml, x2, by rw [ace.2.1]; exact x3, x4, by rw [ace.2.2.1]; exact x5, by rw [ace.2.2.2.1]; exact x6, x9, v, by omega, ?_, fun hv1 => ?_⟩
        · unfold lw; dsimp only; rw [if_pos e]
        · have h8 := x8 (by omega)
          obtain ⟨s, lv, m, x', a1, a2, a3, a4, a5, a6, a7, a8, a9, b1, bs, b2⟩ := hD.2.2.1 u u1 u2
          have lv' : lv = v + 1 := by rw [ev, i_eq (by omega) (by omega)] at a4; exact a4.symm
          subst lv'
          obtain ⟨y1, y2, y3⟩ := b2 v hv1 (by omega)
          obtain ⟨z1, z2, z3⟩ := b2 (v + 1) (by omega) (by omega)
          have h9 := y3 (v + 1) (by omega) (by omega)
          rw [z1, i_cl (by omega)] at h8
          rw [eA 54 (by decide) (by decide), y1, i_cl (by omega)]
          omega
      · refine ⟨lw t v x, ml, x2, by rw [ace.2.1]; exact x3, x4, by rw [ace.2.2.1]; exact x5, by rw [ace.2.2.2.1]; exact x6, x9, w, w4, ?_, by rw [eA 54 (by decide) (by decide)]; exact x8⟩
        unfold lw; dsimp only; rw [if_neg e]; exact x7
  · unfold I_po at hP ⊢
    rw [lve, est, eF, eA 52 (by decide) (by decide), eA 55 (by decide) (by decide), eA 71 (by decide) (by decide)]
    exact hP
  · obtain ⟨o', k', c1, c2, c3, c4, c5⟩ := hX u u1 u2 (by unfold inp at hin ⊢; rw [est] at hin; exact hin)
    exact ⟨o', k', by rw [eA _ (by decide) (by decide)]; exact c1, c2, by rw [eA _ (by decide) (by decide)]; exact c3, c4, by rw [eA 69 (by decide) (by decide), eA 70 (by decide) (by decide)]; exact c5⟩
end UX
