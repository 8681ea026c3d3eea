/-! acts undone: backTo -/
section TY
variable {g : e_G} {Z Z' : k_Z} {P P' : k_P} {U U' : k_U} {r r' r0 : Nat × Nat} {S S' : m_S} {N own n b l nl nw nr na ne c T t v left rem cur : Nat} {ch : Nat → List Nat}
theorem K_lk.cgZ (h : K_lk own n b nl nw cur Z P U S) (eA : ∀ f ∈ fp_lkA, S'.2 f = S.2 f) (lev : ∀ u, 1 ≤ u → u ≤ b → S.2 47 u = 2 → S'.2 51 u = S.2 51 u) (u14 : U'.2.1 (own + 14) = U.2.1 (own + 14)) (spU : ∀ o, k_sp U' own o = k_sp U own o) (kSp : k_Sp U' own n) (eh : ∀ o, o < n → k_hl U' own o = k_hl U own o) (eq : ∀ o, o < n → k_ql U' own o = k_ql U own o)
    (fZ : ∀ o y, o < n → y ∈ k_hl U own o ∨ y ∈ k_ql U own o → Z'.2.2 y = Z.2.2 y ∧ ∀ f ∈ [61, 62, 63, 64, 66, 65, 67], P'.1 f y = P.1 f y) (fD : ∀ u, 1 ≤ u → u ≤ b → ∀ f ∈ [40, 43, 47], P'.1 f (dl U own u) = P.1 f (dl U own u)) (fS : ∀ o, o < n → P'.1 180 (k_sp U own o) = P.1 180 (k_sp U own o)) (fW : ∀ u, 1 ≤ u → u ≤ b → U'.1 (dl U own u) = U.1 (dl U own u)) : K_lk own n b nl nw cur Z' P' U' S' := by
  have dlU : ∀ u, dl U' own u = dl U own u := fun u => by unfold dl; rw [u14]
  have vl : v_L nl S'.2 = v_L nl S.2 := v_L_cg (fun f hf => eA f (by revert f; decide))
  have vw : v_W nw S'.2 = v_W nw S.2 := v_W_cg (fun f hf => eA f (by revert f; decide))
  have est := eA 47 (by decide)
  obtain ⟨g1, g2, g3, g4, g5, g6⟩ := h
  refine ⟨kSp, fun o ho => ⟨?_, ?_, by rw [spU, fS o ho, eA _ (by decide)]; exact (g2 o ho).2.2⟩, fun o ho y hy => ?_, fun o ho y hy => ?_, fun o ho => by rw [eh o ho]; exact g5 o ho, fun u u1 u2 => ?_⟩
  · rw [eh o ho, vl, ← (g2 o ho).1, dlU]
    refine List.map_congr_left (fun y hy => ?_)
    obtain ⟨u, q, c1, c2, c3, c4, c5, c6⟩ := g3 o ho y hy
    obtain ⟨fz, fp⟩ := fZ o y ho (Or.inl hy)
    unfold LV
    rw [fz, c4, fD u c1 c2 _ (by decide), fD u c1 c2 _ (by decide), fD u c1 c2 _ (by decide), fp _ (by decide), fp _ (by decide), fp _ (by decide), fp _ (by decide), fp _ (by decide), fp _ (by decide)]
  · rw [eq o ho, vw, ← (g2 o ho).2.1]
    refine List.map_congr_left (fun y hy => ?_)
    obtain ⟨u, c1, c2, c3, c4, _⟩ := g4 o ho y hy
    obtain ⟨fz, fp⟩ := fZ o y ho (Or.inr hy)
    unfold WV
    rw [fz, c4, fD u c1 c2 _ (by decide), fp _ (by decide), fp _ (by decide), fp _ (by decide), fp _ (by decide), fp _ (by decide)]
  · rw [eh o ho] at hy
    obtain ⟨u, q, c1, c2, c3, c4, c5, c6⟩ := g3 o ho y hy
    obtain ⟨fz, fp⟩ := fZ o y ho (Or.inl hy)
    exact ⟨u, q, c1, c2, by unfold undw at c3 ⊢; rw [est]; exact c3, by rw [fz, dlU]; exact c4, by rw [fp _ (by decide)]; exact c5, by rw [eA _ (by decide)]; exact c6⟩
  · rw [eq o ho] at hy
    obtain ⟨u, c1, c2, c3, c4, c5, c6, c7⟩ := g4 o ho y hy
    obtain ⟨fz, fp⟩ := fZ o y ho (Or.inr hy)
    exact ⟨u, c1, c2, by rw [est]; exact c3, by rw [fz, dlU]; exact c4, by rw [dlU, fW u c1 c2]; exact c5, by rw [fp _ (by decide), lev u c1 c2 c3]; exact c6, by rw [fp _ (by decide), eA _ (by decide)]; exact c7⟩
  · obtain ⟨q1, q2⟩ := g6 u u1 u2
    rw [dlU, fW u u1 u2, est]
    refine ⟨q1, fun y hy => ?_⟩
    obtain ⟨o, o1, o2, o3, o4⟩ := q2 y hy
    obtain ⟨fz, fp⟩ := fZ o y o1 (Or.inr o2)
    exact ⟨o, o1, by rw [eq o o1]; exact o2, by rw [fz]; exact o3, by rw [fp _ (by decide)]; exact o4⟩
theorem rev_drop {α : Type} {l : List α} {k p : Nat} {x : α} (h : (l.drop k).reverse[p]? = some x) : l.reverse[p]? = some x := by
  have e : l.reverse = (l.drop k).reverse ++ (l.take k).reverse := by rw [← List.reverse_append, List.take_append_drop]
  have hp : p < (l.drop k).reverse.length := (List.getElem?_eq_some_iff.mp h).1
  rw [e, List.getElem?_append_left hp]
  exact h
theorem I_tbA (hI : I_all n b l nl nw nr na ne ch 0 c T S) (h1 : 1 ≤ t) (h2 : t ≤ b) (st : S.2 47 t = 1) (hl : (ch t).length = left + rem) (hb : ∀ lv, S.2 51 t = nI lv → lv ≤ 4 → ∀ w, 1 ≤ w → w ≤ lv → (S.2 54 (5 * t + w)).toNatClampNeg ≤ left) :
    w_tb t rem S ∧ I_all n b l nl nw (nr + rem) na ne (up1 ch t ((ch t).drop rem)) 0 c (T + rem) (y_tb t rem S) := by
  obtain ⟨hL, hD, hE, hK, hV, hM, hP, hX⟩ := hI
  have hu : undw S.2 t := Or.inl st
  have tlv : t ∈ v_lv l S.2 := (hD.2.2.2.2.2.2.2.2.1 t).mpr ⟨h1, h2, hu⟩
  have nd := pw_nd hD.2.2.2.2.2.2.2.1
  have hch := hL.2.2.2.2.2.2.1 t h1 h2 (Or.inl hu)
  have em : (S.2 52 t).toNatClampNeg = left + rem := by rw [hch.1, i_cl (by have := hch.2.1; omega), hl]
  have l6 := hch.2.1
  have nrl : nr + rem ≤ 1400 := by
    obtain ⟨p1, p2, p3, _⟩ := hP
    have := sum_up (t := t) (f := fun u => (S.2 52 u).toNatClampNeg + 1 + (if S.2 47 u = 2 ∨ u = 0 then 2 else 0)) (g := fun u => if u = t then 0 else (S.2 52 u).toNatClampNeg + 1 + (if S.2 47 u = 2 ∨ u = 0 then 2 else 0)) nd tlv (fun u _ e => if_neg e)
    rw [if_pos rfl, em] at this
    omega
  obtain ⟨w, lg⟩ := I_tbm h1 h2 rem nr ch S hL hu (by omega) (by omega)
  refine ⟨w, ?_⟩
  have fA : ∀ f, f ∉ fp_tb → (y_tb t rem S).2 f = S.2 f := fun f h => ytbm_A h _ _
  have fF : ∀ f, f ≠ 13 → (y_tb t rem S).1 f = S.1 f := fun f h => ytbm_F h _ _
  obtain ⟨rr1, rr2, rr3⟩ := ytbm_r (t := t) rem nr S hL.1 (by omega)
  have mu : ∀ u, u ≠ t → (y_tb t rem S).2 52 u = S.2 52 u ∧ (y_tb t rem S).2 53 u = S.2 53 u := fun u h => ytbm_u h _ _
  have mt : (y_tb t rem S).2 52 t = nI left := by
    have := (lg.2.2.2.2.2.2.1 t h1 h2 (Or.inl (by unfold undw; rw [fA _ (by decide)]; exact hu))).1
    rw [up1_s, List.length_drop, hl, Nat.add_sub_cancel] at this
    exact this
  generalize y_tb t rem S = S' at *
  have est := fA 47 (by decide)
  have un : ∀ u, undw S'.2 u ↔ undw S.2 u := fun u => by unfold undw; rw [est]
  have lve : v_lv l S'.2 = v_lv l S.2 := by unfold v_lv; rw [fA _ (by decide)]
  have vl : v_L nl S'.2 = v_L nl S.2 := v_L_cg (fun f hf => fA f (by revert f; decide))
  have vw : v_W nw S'.2 = v_W nw S.2 := v_W_cg (fun f hf => fA f (by revert f; decide))
  have ace : ac_eq S.2 S'.2 := ⟨fA _ (by decide), fA _ (by decide), fA _ (by decide), fA _ (by decide), fA _ (by decide), fA _ (by decide), fA _ (by decide), fA _ (by decide), fA _ (by decide)⟩
  have st3 : ∀ u, S'.2 47 u = 3 → u ≠ t := fun u z e => by rw [est, e, st] at z; exact absurd z (by decide)
  refine ⟨lg, ?_, ?_, ?_, hV.cg (fA _ (by decide)) (fA _ (by decide)) (fA _ (by decide)) (fA _ (by decide)) (fA _ (by decide)), hM.cg (by omega) (fun f hf => fF f (by revert f; decide)) (fA _ (by decide)), ?_, fun u u1 u2 hin => ?_⟩
  · obtain ⟨d1, d2, d3, d4, d5, d6, d7, d8, d9, d10, d11⟩ := hD
    refine ⟨d1, by rw [fF _ (by decide)]; exact d2, fun u u1 u2 => ?_, fun u u1 u2 => ?_, by rw [fF _ (by decide)]; exact d5, d6, fun i hi => by rw [fA _ (by decide)]; exact d7 i hi, by rw [lve]; exact d8, fun u => by rw [lve, d9 u, un u], Or.inl rfl, fun u u1 u2 hin => ?_⟩
    · obtain ⟨s, lv, m, x, a1, a2, a3, a4, a5, a6, a7, a8, a9, b1, bs, b2⟩ := d3 u u1 u2
      by_cases e : u = t
      · subst e
        refine ⟨s, lv, left, x, by rw [est]; exact a1, a2, a3, by rw [fA _ (by decide)]; exact a4, a5, a6, mt, by omega, by rw [fA _ (by decide)]; exact a9, b1, bs, fun w w1 w2 => ?_⟩
        obtain ⟨y1, y2, y3⟩ := b2 w w1 w2
        have := hb lv a4 a5 w w1 w2
        rw [y1, i_cl (by omega)] at this
        exact ⟨by rw [fA _ (by decide)]; exact y1, this, y3⟩
      · exact ⟨s, lv, m, x, by rw [est]; exact a1, a2, a3, by rw [fA _ (by decide)]; exact a4, a5, a6, by rw [(mu u e).1]; exact a7, a8, by rw [fA _ (by decide)]; exact a9, b1, bs, fun w w1 w2 => by rw [fA _ (by decide)]; exact b2 w w1 w2⟩
    · have ne : u ≠ t := by omega
      obtain ⟨z1, z2, z3, z4, z5, z6, z7⟩ := d4 u u1 u2
      exact ⟨by rw [est]; exact z1, by rw [fA _ (by decide)]; exact z2, by rw [fA _ (by decide)]; exact z3, by rw [(mu u ne).1]; exact z4, by rw [fA _ (by decide)]; exact z5, by rw [fA _ (by decide)]; exact z6, by rw [fA _ (by decide)]; exact z7⟩
    · obtain ⟨o', k', q', c1, c2, c3, c4, c5⟩ := d11 u u1 u2 (by unfold inp at hin ⊢; rw [est] at hin; exact hin)
      exact ⟨o', k', q', by rw [fA _ (by decide)]; exact c1, by rw [fA _ (by decide)]; exact c2, c3, by rw [fA _ (by decide)]; exact c4, c5⟩
  · exact hE.cg (by omega) rr2 (fun j j1 j2 => by rw [rr3 j j1 j2]; decide) (fF _ (by decide)) (fA _ (by decide)) (fA _ (by decide)) (fA _ (by decide)) (fun u _ _ z => up1_n (st3 u z)) (fun u _ _ => by rw [fA _ (by decide)]) (fun u _ _ => by rw [est])
  · obtain ⟨k1, k2, k3, k4, k5, k6, k7, k8, k9, k10, k11, k13, k12⟩ := hK
    refine ⟨by rw [fF _ (by decide)]; exact k1, by rw [fF _ (by decide)]; exact k2, k3, by unfold w_ah; rw [fA _ (by decide)]; exact k4, ?_, ?_, by rw [vw]; exact k7, fun u u1 u2 z => ?_, by rw [vl, fA 4 (by decide)]; exact k9, by rw [vl]; exact k10, ?_, ?_, fun u u1 u2 hu p i hp hkk => ?_⟩
    · unfold I_l1 undw inp at k5 ⊢
      rw [vl, est, fA 51 (by decide)]
      exact k5
    · unfold I_w1 dp o_1 at k6 ⊢
      rw [vw, est, fA 68 (by decide), fA 71 (by decide), fA 7 (by decide), fA 67 (by decide), fA 69 (by decide), fA 70 (by decide)]
      exact k6
    · rw [vw]; exact k8 u u1 u2 (by rw [← est]; exact z)
    · unfold rem7 dp o_1 undw at k11 ⊢
      rw [vl, est, fA 55 (by decide), fA 68 (by decide), fA 71 (by decide), fA 7 (by decide), fA 67 (by decide), fA 70 (by decide)]
      exact k11
    · unfold I_gh kd_1 kd_2 inp undw at k13 ⊢
      rw [vl, vw, est, fA 55 (by decide), fA 68 (by decide), fA 67 (by decide), fA 69 (by decide), fA 70 (by decide)]
      exact k13
    · rw [ace.2.2.1] at hkk
      rw [vl, ace.2.1, ace.2.2.1, ace.2.2.2.1, fA 54 (by decide)]
      refine k12 u u1 u2 ((un u).mp hu) p i ?_ hkk
      by_cases e : u = t
      · subst e
        rw [up1_s] at hp
        exact rev_drop hp
      · rw [up1_n e] at hp; exact hp
  · obtain ⟨p1, p2, p3, p4, p5, p6, p7⟩ := hP
    unfold I_po
    rw [lve, est, fA 55 (by decide), fA 71 (by decide), fF 66 (by decide)]
    have q1 := sum_up (t := t) (f := fun u => (S.2 52 u).toNatClampNeg + 1 + (if S.2 47 u = 2 ∨ u = 0 then 2 else 0)) (g := fun u => (S'.2 52 u).toNatClampNeg + 1 + (if S.2 47 u = 2 ∨ u = 0 then 2 else 0)) nd tlv (fun u _ e => by rw [(mu u e).1])
    rw [em, mt, i_cl (by omega)] at q1
    exact ⟨by omega, by omega, p3, p4, p5, p6, p7⟩
  · obtain ⟨o', k', c1, c2, c3, c4, c5⟩ := hX u u1 u2 (by unfold inp at hin ⊢; rw [est] at hin; exact hin)
    exact ⟨o', k', by rw [fA _ (by decide)]; exact c1, c2, by rw [fA _ (by decide)]; exact c3, c4, by rw [fA 69 (by decide), fA 70 (by decide)]; exact c5⟩
end TY
