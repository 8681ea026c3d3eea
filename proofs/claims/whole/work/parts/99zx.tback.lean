/-! back -/
section UA
variable {g : e_G} {Z : k_Z} {P P' : k_P} {U U' : k_U} {r r0 : Nat × Nat} {S S' : m_S} {N own n b l nl nl' nw nr na ne c T t v : Nat} {ch : Nat → List Nat}
/-- the reference's invariants: locks of a level gone, one level less -/
theorem I_lvd (hI : I_all n b l nl nw nr na ne ch 0 c T S) (h1 : 1 ≤ t) (h2 : t ≤ b) (st : S.2 47 t = 1) (ev : S.2 51 t = nI (v + 1)) (hv : v < 4) (hp : (ch t).length ≤ (S.2 54 (5 * t + (v + 1))).toNatClampNeg) (eF : ∀ f, f ≠ 72 → S'.1 f = S.1 f) (eA : ∀ f, f ∉ 51 :: fp_L → S'.2 f = S.2 f) (el : S'.1 72 = nI nl') (eL : S'.2 51 = va_up (S.2 51) t (nI v)) (vL : v_L nl' S'.2 = (v_L nl S.2).filter (fun x => !(x.1 == nI t && x.2.2.2.2.2.1 == nI (v + 1)))) : I_all n b l nl' nw nr na ne ch 0 c T S' := by
  obtain ⟨hL, hD, hE, hK, hV, hM, hP, hX⟩ := hI
  have b400 := hD.1
  have rwe : rw_eq nr S.2 S'.2 := fun j _ => ⟨by rw [eA _ (by decide)], by rw [eA _ (by decide)], by rw [eA _ (by decide)], by rw [eA _ (by decide)], by rw [eA _ (by decide)], by rw [eA _ (by decide)], by rw [eA _ (by decide)], by rw [eA _ (by decide)]⟩
  have ace : ac_eq S.2 S'.2 := ⟨eA _ (by decide), eA _ (by decide), eA _ (by decide), eA _ (by decide), eA _ (by decide), eA _ (by decide), eA _ (by decide), eA _ (by decide), eA _ (by decide)⟩
  have est := eA 47 (by decide)
  have un : ∀ u, undw S'.2 u ↔ undw S.2 u := fun u => by unfold undw; rw [est]
  have lve : v_lv l S'.2 = v_lv l S.2 := by unfold v_lv; rw [eA _ (by decide)]
  have vw : v_W nw S'.2 = v_W nw S.2 := v_W_cg (fun f hf => eA f (by revert f; decide))
  have mem : ∀ x, x ∈ v_L nl' S'.2 ↔ x ∈ v_L nl S.2 ∧ ¬ (x.1 = nI t ∧ x.2.2.2.2.2.1 = nI (v + 1)) := fun x => by
    rw [vL, List.mem_filter]
    simp only [Bool.not_eq_true', Bool.and_eq_false_iff, beq_eq_false_iff_ne]
    constructor
    · rintro ⟨z1, z2⟩
      exact ⟨z1, fun y => z2.elim (fun h => h y.1) (fun h => h y.2)⟩
    · rintro ⟨z1, z2⟩
      refine ⟨z1, ?_⟩
      by_cases c : x.1 = nI t
      · exact Or.inr (fun e => z2 ⟨c, e⟩)
      · exact Or.inl c
  refine ⟨?_, ?_, ?_, ?_, hV.cg (eA _ (by decide)) (eA _ (by decide)) (eA _ (by decide)) (eA _ (by decide)) (eA _ (by decide)), hM.cg (Nat.le_refl _) (fun f hf => eF f (by revert f; decide)) (eA _ (by decide)), ?_, fun u u1 u2 hin => ?_⟩
  · exact hL.cg ((eF _ (by decide)).trans hL.1) (Nat.le_refl _) rwe (fun j j1 j2 => by omega) (eF _ (by decide)) ace (eA _ (by decide)) (eA _ (by decide)) (eA _ (by decide)) (eA _ (by decide)) (eA _ (by decide)) (eA _ (by decide)) (fun _ _ _ _ => rfl) (fun u _ _ _ => ⟨by rw [eA _ (by decide)], by rw [eA _ (by decide)]⟩) (fun u _ _ => ⟨(un u).mp, fun z => Or.inr (by rw [est] at z; exact z)⟩)
  · obtain ⟨d1, d2, d3, d4, d5, d6, d7, d8, d9, d10, d11⟩ := hD
    refine ⟨d1, (eF _ (by decide)).trans d2, fun u u1 u2 => ?_, fun u u1 u2 => ?_, (eF _ (by decide)).trans d5, d6, fun i hi => by rw [eA _ (by decide)]; exact d7 i hi, by rw [lve]; exact d8, fun u => by rw [lve, d9 u, un u], Or.inl rfl, fun u u1 u2 hin => ?_⟩
    · obtain ⟨s, lv, m, x, a1, a2, a3, a4, a5, a6, a7, a8, a9, b1, bs, b2⟩ := d3 u u1 u2
      by_cases e : u = t
      · subst e
        have lv' : lv = v + 1 := by rw [ev, i_eq (by omega) (by omega)] at a4; exact a4.symm
        subst lv'
        refine ⟨s, v, m, x, by rw [est]; exact a1, a2, a3, by rw [eL, up_s], by omega, fun z => by have := a6 z; omega, by rw [eA _ (by decide)]; exact a7, a8, by rw [eA _ (by decide)]; exact a9, b1, bs, fun w w1 w2 => ?_⟩
        obtain ⟨y1, y2, y3⟩ := b2 w w1 (by omega)
        exact ⟨by rw [eA _ (by decide)]; exact y1, y2, fun w' z1 z2 => y3 w' z1 (by omega)⟩
      · exact ⟨s, lv, m, x, by rw [est]; exact a1, a2, a3, by rw [eL, up_n e]; exact a4, a5, a6, by rw [eA _ (by decide)]; exact a7, a8, by rw [eA _ (by decide)]; exact a9, b1, bs, fun w w1 w2 => by rw [eA _ (by decide)]; exact b2 w w1 w2⟩
    · have ne : u ≠ t := by omega
      obtain ⟨z1, z2, z3, z4, z5, z6, z7⟩ := d4 u u1 u2
      exact ⟨by rw [est]; exact z1, by rw [eA _ (by decide)]; exact z2, by rw [eL, up_n ne]; exact z3, by rw [eA _ (by decide)]; exact z4, by rw [eA _ (by decide)]; exact z5, by rw [eA _ (by decide)]; exact z6, by rw [eA _ (by decide)]; exact z7⟩
    · obtain ⟨o', k', q', c1, c2, c3, c4, c5⟩ := d11 u u1 u2 (by unfold inp at hin ⊢; rw [est] at hin; exact hin)
      exact ⟨o', k', q', by rw [eA _ (by decide)]; exact c1, by rw [eA _ (by decide)]; exact c2, c3, by rw [eA _ (by decide)]; exact c4, c5⟩
  · exact hE.cg (Nat.le_refl _) rwe (fun j j1 j2 => by omega) (eF _ (by decide)) (eA _ (by decide)) (eA _ (by decide)) (eA _ (by decide)) (fun _ _ _ _ => rfl) (fun u _ _ => by rw [eA _ (by decide)]) (fun u _ _ => by rw [est])
  · obtain ⟨k1, k2, k3, k4, k5, k6, k7, k8, k9, k10, k11, ⟨kq, G, k13⟩, k12⟩ := hK
    refine ⟨el, (eF _ (by decide)).trans k2, k3, by unfold w_ah; rw [eA _ (by decide)]; exact k4, fun y hy => ?_, ?_, by rw [vw]; exact k7, fun u u1 u2 z => ?_, fun x hx y hy => ?_, ?_, fun u u1 u2 z => ?_, ⟨fun x hx y hy => ?_, G, fun u u1 u2 z => ?_⟩, fun u u1 u2 hu p i hpi hkk => ?_⟩
    · obtain ⟨y1, y2⟩ := (mem y).mp hy
      obtain ⟨u, o', w, c1, c2, c3, c4, c5, c6, c7, c8, c9, g1, g2, g3⟩ := k5 y y1
      refine ⟨u, o', w, c1, c2, c3, (un u).mpr c4, c5, c6, c7, c8, c9, g1, ?_, g3.imp id (fun z => ⟨z.1, by unfold inp at z ⊢; rw [est]; exact z.2⟩)⟩
      by_cases e : u = t
      · subst e
        rw [ev, i_le (by omega) (by omega)] at g2
        have : w ≠ v + 1 := fun z => y2 ⟨c1, by rw [c9, z]⟩
        rw [eL, up_s, i_le (by omega) (by omega)]
        omega
      · rw [eL, up_n e]; exact g2
    · unfold I_w1 dp o_1 at k6 ⊢
      rw [vw, est, eA 68 (by decide), eA 71 (by decide), eA 7 (by decide), eA 67 (by decide), eA 69 (by decide), eA 70 (by decide)]
      exact k6
    · rw [vw]; exact k8 u u1 u2 (by rw [← est]; exact z)
    · rw [eA 4 (by decide)]
      exact k9 x ((mem x).mp hx).1 y ((mem y).mp hy).1
    · rw [vL]; exact k10.sublist List.filter_sublist
    · have q1 := k11 u u1 u2 ((un u).mp z)
      have q2 : (xl u (v_L nl' S'.2)).length ≤ (xl u (v_L nl S.2)).length := by
        rw [vL]
        unfold xl
        exact ((List.filter_sublist (p := fun x : v_LT => !(x.1 == nI t && x.2.2.2.2.2.1 == nI (v + 1)))).filter _).length_le
      have q3 : rem7 S'.2 0 u = rem7 S.2 0 u := by
        unfold rem7 dp o_1
        rw [est, eA 68 (by decide), eA 71 (by decide), eA 7 (by decide), eA 67 (by decide), eA 70 (by decide)]
      rw [q3, eA 55 (by decide)]
      omega
    · rw [vw] at hx
      exact kq x hx y ((mem y).mp hy).1
    · obtain ⟨j1, j2, j3, j4⟩ := k13 u u1 u2 ((un u).mp z)
      have q1 : kd_1 S'.2 u = kd_1 S.2 u := by unfold kd_1; rw [eA 68 (by decide), eA 67 (by decide), eA 70 (by decide)]
      have q2 : kd_2 S'.2 u = kd_2 S.2 u := by unfold kd_2; rw [eA 68 (by decide), eA 67 (by decide), eA 70 (by decide)]
      rw [vw, q1, q2, eA 55 (by decide), eA 69 (by decide)]
      exact ⟨j1, fun x hx => j2 x ((mem x).mp hx).1, j3, fun w => j4 (by unfold inp at w ⊢; rw [est] at w; exact w)⟩
    · rw [ace.2.2.1] at hkk
      obtain ⟨x, x1, x2, x3, x4, x5, x6, x9, w, w4, x7, x8⟩ := k12 u u1 u2 ((un u).mp hu) p i hpi hkk
      refine ⟨x, (mem x).mpr ⟨x1, fun z => ?_⟩, x2, by rw [ace.2.1]; exact x3, x4, by rw [ace.2.2.1]; exact x5, by rw [ace.2.2.2.1]; exact x6, x9, w, w4, x7, by rw [eA 54 (by decide)]; exact x8⟩
      have eu : u = t := by rw [x2, i_eq (by omega) (by omega)] at z; exact z.1
      have ew : w = v + 1 := by
        have := z.2
        rw [x7, i_eq (by omega) (by omega)] at this
        exact this
      subst eu
      subst ew
      have h8 := x8 (by omega)
      have hpl : p < (ch u).reverse.length := (List.getElem?_eq_some_iff.mp hpi).1
      rw [List.length_reverse] at hpl
      omega
  · unfold I_po at hP ⊢
    rw [lve, est, eF 66 (by decide), eA 52 (by decide), eA 55 (by decide), eA 71 (by decide)]
    exact hP
  · obtain ⟨o', k', c1, c2, c3, c4, c5⟩ := hX u u1 u2 (by unfold inp at hin ⊢; rw [est] at hin; exact hin)
    exact ⟨o', k', by rw [eA _ (by decide)]; exact c1, c2, by rw [eA _ (by decide)]; exact c3, c4, by rw [eA 69 (by decide), eA 70 (by decide)]; exact c5⟩
/-- the class's side: locks freed -/
theorem K_free (har : ∀ u, 1 ≤ u → u ≤ b → undw S.2 u ∨ S.2 47 u = 3 → ∀ i ∈ ch u, ar S.2 i < nr) (lvm : ∀ u ∈ v_lv l S.2, 1 ≤ u ∧ u ≤ b) (hK : K_all N own n b l nl nw nr ne ch 0 Z P U r S) {p : Nat → Bool} (hm : k_mapH own n (fun y => y.filter (fun y => !p y)) U U') (w' : k_W N Z U') (eF : ∀ f, f ≠ 72 → S'.1 f = S.1 f) (eA : ∀ f, f ∉ fp_L → S'.2 f = S.2 f) {q : v_LT → Bool} (vL : v_L nl' S'.2 = (v_L nl S.2).filter (fun x => !q x)) (hpq : ∀ o, o < n → ∀ y ∈ k_hl U own o, ∀ x ∈ v_LO (nI o) (v_L nl S.2), LV Z P own y = LN x → p y = q x) : K_all N own n b l nl' nw nr ne ch 0 Z P U' r S' := by
  obtain ⟨E, kLg, ⟨hs, hS⟩, ⟨hs5, hS5⟩, kDe, kEn, kAs, kLk, kVe, kMi⟩ := hK
  obtain ⟨m1, m2, m3, m4⟩ := hm
  have tO := E.2.1
  obtain ⟨a1, a2, a3, a4, a5, a6, a7, a8, a9, a10⟩ := E.1.hse tO
  have t18 : Z.1 (own + 18) = 32 := E.1.log a8
  have sp31 : ∀ o, o < n → Z.1 (k_sp U own o + 1) = 31 := fun o ho => (E.1.spt (k_sp_t E.1 tO kLk.1 ho)).1
  have fUL : ∀ a, Z.1 a ≠ 31 → U'.2.1 a = U.2.1 a := fun a h => m4 a (fun o ho e => h (by rw [e]; exact sp31 o ho))
  have u14 : U'.2.1 (own + 14) = U.2.1 (own + 14) := fUL _ (by rw [a5]; decide)
  have spU : ∀ o, k_sp U' own o = k_sp U own o := fun o => by unfold k_sp; rw [m2]
  have thU : ∀ s o, k_th U' s o = k_th U s o := fun s o => by unfold k_th; rw [m2]
  have est := eA 47 (by decide)
  have rwe : rw_eq nr S.2 S'.2 := fun j _ => ⟨by rw [eA _ (by decide)], by rw [eA _ (by decide)], by rw [eA _ (by decide)], by rw [eA _ (by decide)], by rw [eA _ (by decide)], by rw [eA _ (by decide)], by rw [eA _ (by decide)], by rw [eA _ (by decide)]⟩
  have ace : ac_eq S.2 S'.2 := ⟨eA _ (by decide), eA _ (by decide), eA _ (by decide), eA _ (by decide), eA _ (by decide), eA _ (by decide), eA _ (by decide), eA _ (by decide), eA _ (by decide)⟩
  have E' : k_E N own Z U' r := ⟨w', E.2.1, E.2.2.1, fun a i a' i' x q1 q2 q3 q4 => E.2.2.2.1 a i a' i' x q1 q2 (by rw [← m2]; exact q3) (by rw [← m2]; exact q4), E.2.2.2.2.cg (Nat.le_refl _) (fun _ _ => rfl) (by rw [m2])⟩
  have shk : ∀ s x0, k_Sh Z P U s n → R_sh P U s n S.2 x0 → k_Sh Z P U' s n ∧ R_sh P U' s n S'.2 x0 := fun s x0 hs hS => ⟨⟨hs.1, hs.2.1, hs.2.2.1, fun o ho => by rw [thU, m2]; exact hs.2.2.2 o ho⟩, R_sh.cgU (U := U) (hS.keep (fun _ _ _ _ => rfl) (fun _ _ => rfl) (eA _ (by decide)) (eA _ (by decide)) (eA _ (by decide)) (fun o _ => ⟨by rw [eA _ (by decide)], by rw [eA _ (by decide)], by rw [eA _ (by decide)]⟩) (fun x _ _ => by rw [eA _ (by decide)])) (fun o _ => thU s o)⟩
  have lve : v_lv l S'.2 = v_lv l S.2 := by unfold v_lv; rw [eA _ (by decide)]
  have vw : v_W nw S'.2 = v_W nw S.2 := v_W_cg (fun f hf => eA f (by revert f; decide))
  have dlU : ∀ u, dl U' own u = dl U own u := fun u => by unfold dl; rw [u14]
  refine ⟨E', ?_, shk _ _ hs hS, shk _ _ hs5 hS5, ?_, kEn.cg u14 (fUL _ (by rw [a7]; decide)) (eA _ (by decide)), ?_, ?_, kVe.cg spU (fun _ _ => ⟨rfl, rfl, rfl⟩) (fun f hf => eA f (by revert f; decide)), ?_⟩
  · exact kLg.ext (xs := []) (by rw [List.append_nil]; exact fUL _ (by rw [t18]; decide)) (by simp) (fun x hx => by cases hx) rwe ace (fun _ _ _ _ => rfl) (fun j x hx => by cases hx) (fun u u1 u2 hus => ⟨rfl, by unfold undw at hus ⊢; rw [est] at hus; exact hus⟩) har
  · refine kDe.cg u14 (fUL _ (by rw [a6]; decide)) (Nat.le_refl _) lve lvm (fun _ _ _ _ _ => rfl) (fun u u1 u2 p hp => by rw [eA _ (by revert p; decide)]; exact kDe.p u1 u2 p hp) (fun u u1 u2 v v1 v2 v3 => ?_) (fun u u1 u2 hus => ⟨⟨by unfold undw at hus ⊢; rw [est] at hus; exact hus, fun z => by unfold undw at z ⊢; rw [est] at z; exact z⟩, fun j hj => Or.inl ⟨hj, by unfold ar; rw [eA _ (by decide)]⟩⟩)
    rw [eA 51 (by decide)] at v2
    rw [eA 54 (by decide)]
    exact kDe.2.2.2.1 u u1 u2 v v1 v2 v3
  · exact kAs.cg u14 (fun u u1 u2 hin => ⟨by unfold inp at hin ⊢; rw [est] at hin; exact hin, fun _ _ => rfl, fun f hf => by rw [eA f (by revert f; decide)]⟩) (eA _ (by decide))
  · obtain ⟨g1, g2, g3, g4, g5, g6⟩ := kLk
    have eh : ∀ o, o < n → k_hl U' own o = (k_hl U own o).filter (fun y => !p y) := fun o ho => by unfold k_hl; rw [spU]; exact m3 o ho
    have eq : ∀ o, o < n → k_ql U' own o = k_ql U own o := fun o ho => by unfold k_ql; rw [spU]; exact m4 _ (fun o' ho' e => (sp_ne E g1 ho ho').2.1 e)
    refine ⟨fun o ho => by rw [spU, m2]; exact g1 o ho, fun o ho => ⟨?_, ?_, by rw [spU, eA _ (by decide)]; exact (g2 o ho).2.2⟩, fun o ho y hy => ?_, fun o ho y hy => ?_, fun o ho => by rw [eh o ho]; exact (g5 o ho).sublist List.filter_sublist, fun u u1 u2 => ?_⟩
    · have e := (g2 o ho).1
      rw [if_pos rfl] at e
      rw [eh o ho, vL, if_pos rfl]
      have e2 : v_LO (nI o) ((v_L nl S.2).filter (fun x => !q x)) = (v_LO (nI o) (v_L nl S.2)).filter (fun x => !q x) := by
        unfold v_LO
        rw [List.filter_filter, List.filter_filter]
        exact List.filter_congr (fun x _ => Bool.and_comm _ _)
      rw [e2]
      exact fm_eq e (fun y hy x hx exy => ⟨by rw [hpq o ho y hy x hx exy], exy⟩)
    · rw [eq o ho, vw]; exact (g2 o ho).2.1
    · rw [eh o ho] at hy
      obtain ⟨u, x, c1, c2, c3, c4, c5, c6⟩ := g3 o ho y (List.mem_filter.mp hy).1
      exact ⟨u, x, c1, c2, by unfold undw at c3 ⊢; rw [est]; exact c3, by rw [dlU]; exact c4, c5, by rw [eA _ (by decide)]; exact c6⟩
    · rw [eq o ho] at hy
      obtain ⟨u, c1, c2, c3, c4, c5, c6, c7⟩ := g4 o ho y hy
      exact ⟨u, c1, c2, by rw [est]; exact c3, by rw [dlU]; exact c4, by rw [dlU, m1]; exact c5, by rw [eA _ (by decide)]; exact c6, by rw [eA _ (by decide)]; exact c7⟩
    · obtain ⟨z1, z2⟩ := g6 u u1 u2
      rw [dlU, m1, est]
      refine ⟨z1, fun y hy => ?_⟩
      obtain ⟨o, o1, o2, o3, o4⟩ := z2 y hy
      exact ⟨o, o1, by rw [eq o o1]; exact o2, o3, o4⟩
  · exact kMi.cg (fun p hp => Or.inl ⟨rfl, eF _ (by revert p; decide)⟩) rfl (eF _ (by decide)) (eF _ (by decide)) rfl (eA _ (by decide)) (by rw [eF _ (by decide), eA _ (by decide)]; exact (mi_iff.mp kMi).2.2.2)
/-- the class's side: another level -/
theorem K_lvl (har : ∀ u, 1 ≤ u → u ≤ b → undw S.2 u ∨ S.2 47 u = 3 → ∀ i ∈ ch u, ar S.2 i < nr) (lvm : ∀ u ∈ v_lv l S.2, 1 ≤ u ∧ u ≤ b) (hK : K_all N own n b l nl nw nr ne ch 0 Z P U r S) (h1 : 1 ≤ t) (h2 : t ≤ b) (st : S.2 47 t = 1) {w : Nat} (ev : S.2 51 t = nI w) (hw : w ≤ 4) (hv : v ≤ w) (eF : S'.1 = S.1) (eA : ∀ f, f ≠ 51 → S'.2 f = S.2 f) (eL : S'.2 51 = va_up (S.2 51) t (nI v)) : K_all N own n b l nl nw nr ne ch 0 Z (k_wr P 45 (dl U own t) (nI v)) U r S' := by
  have hK0 := hK
  obtain ⟨E, kLg, ⟨hs1, hS⟩, ⟨hs5, hS5⟩, kDe, kEn, kAs, kLk, kVe, kMi⟩ := hK
  have est := eA 47 (by decide)
  have fP : ∀ f y, f ∉ [45] → (k_wr P 45 (dl U own t) (nI v)).1 f y = P.1 f y := fun f y h => k_rn (fun e => h (by rw [e]; exact List.mem_singleton.mpr rfl))
  have dne : ∀ u, 1 ≤ u → u ≤ b → u ≠ t → dl U own u ≠ dl U own t := fun u u1 u2 hne e => hne (dl_inj kDe.1 kDe.2.1 u1 u2 h1 h2 e)
  obtain ⟨q1, q2, q3, q4, q5⟩ := K_four (S1 := S') har hK0 (X := [45]) (by decide) fP (fun y hy => rfl) (fun f hf => eA f (by revert f; decide))
  have lve : v_lv l S'.2 = v_lv l S.2 := by unfold v_lv; rw [eA _ (by decide)]
  refine ⟨E, q1, q2, q3, ?_, q4, ?_, ?_, q5, ?_⟩
  · refine kDe.cg rfl rfl (Nat.le_refl _) lve lvm (fun u u1 u2 f hf => fP f _ (by revert f; decide)) (prs_1 kDe (f0 := 45) (A0 := 51) (by decide) h1 h2 (fun u u1 u2 f hf hm => ?_) (fun f u hf hm => ?_) (by rw [k_rs, eL, up_s])) (fun u u1 u2 x w1 w2 w3 => ?_) (fun u u1 u2 hus => ⟨⟨by unfold undw at hus ⊢; rw [est] at hus; exact hus, fun z => by unfold undw at z ⊢; rw [est] at z; exact z⟩, fun j hj => Or.inl ⟨hj, by unfold ar; rw [eA _ (by decide)]⟩⟩)
    · by_cases c : f = 45
      · rw [c]; exact k_ra (dne u u1 u2 (hf.resolve_left (fun h => h c)))
      · exact fP f _ (fun z => c (List.mem_singleton.mp z))
    · by_cases c : f = 51
      · rw [c, eL, up_n (hf.resolve_left (fun h => h c))]
      · rw [eA f c]
    · show P.2 (dl U own u + 2) x = _
      rw [eA 54 (by decide)]
      by_cases c : u = t
      · subst c
        rw [eL, up_s, i_le (by omega) (by omega)] at w2
        exact kDe.2.2.2.1 u u1 u2 x w1 (by rw [ev, i_le (by omega) (by omega)]; omega) w3
      · rw [eL, up_n c] at w2
        exact kDe.2.2.2.1 u u1 u2 x w1 w2 w3
  · exact kAs.cg rfl (fun u u1 u2 hin => ⟨by unfold inp at hin ⊢; rw [est] at hin; exact hin, fun f hf => fP f _ (by revert f; decide), fun f hf => by rw [eA f (by revert f; decide)]⟩) (eA _ (by decide))
  · exact kLk.cgP (fun f hf => eA f (by revert f; decide)) (fun u u1 u2 s2 => by rw [eL, up_n (fun e => by rw [e, st] at s2; exact absurd s2 (by decide))]) (fun f hf y => fP f y (by revert f; decide))
  · exact kMi.cg (fun p hp => Or.inl ⟨fP _ _ (by revert p; decide), by rw [eF]⟩) (fP _ _ (by decide)) (by rw [eF]) (by rw [eF]) rfl (eA _ (by decide)) (by rw [eF, eA _ (by decide)]; exact (mi_iff.mp kMi).2.2.2)
theorem t_back (hg : e_GK g) (hA : e_AK g) {t : Int32} : TW g own r0 93 193 [.int t] := by
  intro c Z P U r S B Ψ hc hV q
  have hV0 := hV
  obtain ⟨N, n, b, l, nl, nw, nr, na, ne, ch, T, hI, hK, hR⟩ := hV
  have b400 := hI.2.1.1
  have tO := hK.1.2.1
  have kDe := hK.2.2.2.2.1
  have hb : S.1 44 = nI b := hI.2.1.2.1
  have fin : ∀ S' y, r_cBack t S y S' → ∀ Z' P' U' r', V own (c + 1) r0 Z' P' U' r' S' → Ψ (some (.int y)) (K_H Z' P' U' (B, r')) := fun S' y e Z' P' U' r' hV' => q y Z' P' U' r' S' hV' (fun M h Φ hq => c_back hg e hq)
  refine e_call (cd := cd93) hg ok93 (by rw [mL93]; exact Nat.le_of_ble_eq_true rfl) ?_
  rw [mL93]
  simp only [x_ini, x_inr, x_inn, x_inq, x_inl, x_in0, x_rp0, x_rps, Nat.reduceSub]
  simp (decide := true) (disch := first | assumption | omega) only [↓u93_0, ↓u93_12, ↓u93_27, ↓u93_30, ↓x_nil, ↓x_om, ↓x_aload_0r, ↓x_aload_0n, ↓x_aload_0q, ↓x_iload_1, ↓x_invokevirtual, mt_12_121, x_ps0, x_ps1, x_l40, x_l41, x_l42, x_l43, x_l44, ↓x_cv1, ↓x_astore_2r, ↓x_astore_2n, ↓x_astore_2q, x_cl_i, x_cl_r, x_cl_n, x_cl_q, x_cl_0, x_cl_l, ↓x_aload_2r, ↓x_aload_2n, ↓x_aload_2q, ↓x_ifnonnull_n, ↓x_ifnonnull_r, ↓x_ifnonnull_q, ↓x_iconst_m1, ↓x_ireturn, rt93, ↓x_getfield, ft_12_125, ↓x_iconst_1, ↓x_icmp_ne, ft_12_130, ↓x_if_ne, ↓x_bipush_m2, mt_12_144, ↓x_cv0, mt_12_147, ↓x_cv2, ↓x_istore_3, ↓x_iconst_0, mt_12_151, ↓x_cv3, ↓x_dup_i, ↓x_dup_r, ↓x_dup_n, ↓x_isub, ↓x_putfield, x_fit0, x_fit1, x_fit2r, x_fit2n, x_fit2q, ↓x_null, mt_12_155, ↓x_iload_3, Int.reduceAdd, Nat.reduceAdd, true_and, and_true, true_or, or_true, false_or, or_false, reduceCtorEq, false_and, and_false, and_self, or_self, false_implies, true_implies, not_true_eq_false, not_false_eq_true, implies_true, Option.some.injEq, ki12, kg2, kv2_3, kv2_5, ki2, kw2_5, k_rs, k_rn, k_r2, k_c2, up_s, up_n]
  refine h_dealOf hg hA hK.1.1 tO (by rw [kDe.1]; omega) ?_
  rcases dO_ok kDe.1 b400 t with ⟨e, hi⟩ | ⟨j, j1, j2, et, e, hi⟩
  · rw [e, k_rfn]
    simp (decide := true) (disch := first | assumption | omega) only [↓u93_0, ↓u93_12, ↓u93_27, ↓u93_30, ↓x_nil, ↓x_om, ↓x_aload_0r, ↓x_aload_0n, ↓x_aload_0q, ↓x_iload_1, ↓x_invokevirtual, mt_12_121, x_ps0, x_ps1, x_l40, x_l41, x_l42, x_l43, x_l44, ↓x_cv1, ↓x_astore_2r, ↓x_astore_2n, ↓x_astore_2q, x_cl_i, x_cl_r, x_cl_n, x_cl_q, x_cl_0, x_cl_l, ↓x_aload_2r, ↓x_aload_2n, ↓x_aload_2q, ↓x_ifnonnull_n, ↓x_ifnonnull_r, ↓x_ifnonnull_q, ↓x_iconst_m1, ↓x_ireturn, rt93, ↓x_getfield, ft_12_125, ↓x_iconst_1, ↓x_icmp_ne, ft_12_130, ↓x_if_ne, ↓x_bipush_m2, mt_12_144, ↓x_cv0, mt_12_147, ↓x_cv2, ↓x_istore_3, ↓x_iconst_0, mt_12_151, ↓x_cv3, ↓x_dup_i, ↓x_dup_r, ↓x_dup_n, ↓x_isub, ↓x_putfield, x_fit0, x_fit1, x_fit2r, x_fit2n, x_fit2q, ↓x_null, mt_12_155, ↓x_iload_3, Int.reduceAdd, Nat.reduceAdd, true_and, and_true, true_or, or_true, false_or, or_false, reduceCtorEq, false_and, and_false, and_self, or_self, false_implies, true_implies, not_true_eq_false, not_false_eq_true, implies_true, Option.some.injEq, ki12, kg2, kv2_3, kv2_5, ki2, kw2_5, k_rs, k_rn, k_r2, k_c2, up_s, up_n]
    exact fin S (-1) (Or.inl ⟨by rw [hb]; exact hi, rfl, rfl⟩) Z P U r (hV0.next hc)
  · obtain ⟨td, ta, tb⟩ := dl_t hK.1 kDe.1 j1 j2
    have dd := kDe.2.2.1 j j1 j2
    obtain ⟨sx, lv, m, xa, g1, g2, g3, g4, g5, g6, g7, g8, g9, g10, bs, hbs⟩ := hI.2.1.2.2.1 j j1 j2
    have e1 := dd.2.2.2.1
    have e2 : P.1 45 (dl U own j) = nI lv := (dd.2.2.2.2.2.1).trans g4
    have e3 : P.1 46 (dl U own j) = nI m := (dd.2.2.2.2.2.2.1).trans g7
    have no : ¬ (S.2 47 j = 1 ∧ 0 < lv) → Ψ (some (.int (-2))) (K_H Z P U (B, r)) := fun z => fin S (-2) (Or.inr ⟨j, lv, by omega, et, by rw [hb]; exact hi, g4, g5, Or.inl ⟨z, rfl, rfl⟩⟩) Z P U r (hV0.next hc)
    rw [e, k_rfs]
    simp (decide := true) (disch := first | assumption | omega) only [↓u93_0, ↓u93_12, ↓u93_27, ↓x_nil, ↓x_om, ↓x_aload_0r, ↓x_aload_0n, ↓x_aload_0q, ↓x_iload_1, ↓x_invokevirtual, mt_12_121, x_ps0, x_ps1, x_l40, x_l41, x_l42, x_l43, x_l44, ↓x_cv1, ↓x_astore_2r, ↓x_astore_2n, ↓x_astore_2q, x_cl_i, x_cl_r, x_cl_n, x_cl_q, x_cl_0, x_cl_l, ↓x_aload_2r, ↓x_aload_2n, ↓x_aload_2q, ↓x_ifnonnull_n, ↓x_ifnonnull_r, ↓x_ifnonnull_q, ↓x_iconst_m1, ↓x_ireturn, rt93, ↓x_getfield, ft_12_125, ↓x_iconst_1, ↓x_icmp_ne, ft_12_130, ↓x_if_ne, ↓x_bipush_m2, mt_12_144, ↓x_cv0, mt_12_147, ↓x_cv2, ↓x_istore_3, ↓x_iconst_0, mt_12_151, ↓x_cv3, ↓x_dup_i, ↓x_dup_r, ↓x_dup_n, ↓x_isub, ↓x_putfield, x_fit0, x_fit1, x_fit2r, x_fit2n, x_fit2q, ↓x_null, mt_12_155, ↓x_iload_3, Int.reduceAdd, Nat.reduceAdd, true_and, and_true, true_or, or_true, false_or, or_false, reduceCtorEq, false_and, and_false, and_self, or_self, false_implies, true_implies, not_true_eq_false, not_false_eq_true, implies_true, Option.some.injEq, i_add, i_a1, i_m8, i_m5, i_m401, i_40, i_80, i_r40, i_s1, i_am1, i_sub, i_lt, i_le, i_eq, i_m1, il_le_0, il_ge_0, il_lt_0, il_gt_0, il_eq_0, il_le_1, il_ge_1, il_lt_1, il_gt_1, il_eq_1, il_le_2, il_ge_2, il_lt_2, il_gt_2, il_eq_2, il_le_3, il_ge_3, il_lt_3, il_gt_3, il_eq_3, il_le_4, il_ge_4, il_lt_4, il_gt_4, il_eq_4, il_le_5, il_ge_5, il_lt_5, il_gt_5, il_eq_5, il_le_6, il_ge_6, il_lt_6, il_gt_6, il_eq_6, il_le_7, il_ge_7, il_lt_7, il_gt_7, il_eq_7, il_le_8, il_ge_8, il_lt_8, il_gt_8, il_eq_8, il_le_12, il_ge_12, il_lt_12, il_gt_12, il_eq_12, il_le_16, il_ge_16, il_lt_16, il_gt_16, il_eq_16, il_le_20, il_ge_20, il_lt_20, il_gt_20, il_eq_20, il_le_21, il_ge_21, il_lt_21, il_gt_21, il_eq_21, il_le_40, il_ge_40, il_lt_40, il_gt_40, il_eq_40, il_le_100, il_ge_100, il_lt_100, il_gt_100, il_eq_100, il_le_120, il_ge_120, il_lt_120, il_gt_120, il_eq_120, il_le_200, il_ge_200, il_lt_200, il_gt_200, il_eq_200, il_le_400, il_ge_400, il_lt_400, il_gt_400, il_eq_400, il_le_700, il_ge_700, il_lt_700, il_gt_700, il_eq_700, e1, e2, ki12, kg2, kv2_3, kv2_5, ki2, kw2_5, k_rs, k_rn, k_r2, k_c2, up_s, up_n]
    refine ⟨fun st => ⟨fun c0 => no (fun z => by omega), fun c0 => ?_⟩, fun st => no (fun z => st z.1)⟩
    have lv1 : 1 ≤ lv := by omega
    obtain ⟨v, rfl⟩ : ∃ v, lv = v + 1 := ⟨lv - 1, by omega⟩
    obtain ⟨y4, y5, _⟩ := hbs (v + 1) lv1 (Nat.le_refl _)
    have ebc : k_lvM P (dl U own j) (v + 1) = nI (bs (v + 1)) := by
      unfold k_lvM
      rw [if_pos (by omega), kDe.2.2.2.1 j j1 j2 (v + 1) (by omega) (by rw [g4]; exact Int32.le_refl _) g5]
      exact y4
    have hu : undw S.2 j := Or.inl st
    have hch := hI.1.2.2.2.2.2.2.1 j j1 j2 (Or.inl hu)
    have ml : m = (ch j).length := by
      have h := hch.1
      have h6 := hch.2.1
      rw [g7, i_eq (by omega) (by omega)] at h
      exact h
    obtain ⟨wt, hI2⟩ := I_tbA (left := bs (v + 1)) (rem := m - bs (v + 1)) hI j1 j2 st (by omega) (fun lv' el hl4 w w1 w2 => by
      have el' : lv' = v + 1 := by rw [g4, i_eq (by omega) (by omega)] at el; exact el.symm
      subst el'
      obtain ⟨x1, x2, x3⟩ := hbs w w1 w2
      rw [x1, i_cl (by omega)]
      exact x3 _ w2 (Nat.le_refl _))
    have nrl : nr + (m - bs (v + 1)) ≤ 1400 := by
      have q1 := hI2.2.2.2.2.2.2.1.1
      have q2 := hI2.2.2.2.2.2.2.1.2.1
      have q3 := hI2.2.2.2.2.2.2.1.2.2.1
      omega
    obtain ⟨f0, f1, f2, f3⟩ := kDe.2.2.2.2.1 j j1 j2
    rw [u93_30]
    simp (decide := true) (disch := first | assumption | omega) only [↓u93_0, ↓u93_12, ↓u93_27, ↓u93_30, ↓x_nil, ↓x_om, ↓x_aload_0r, ↓x_aload_0n, ↓x_aload_0q, ↓x_iload_1, ↓x_invokevirtual, mt_12_121, x_ps0, x_ps1, x_l40, x_l41, x_l42, x_l43, x_l44, ↓x_cv1, ↓x_astore_2r, ↓x_astore_2n, ↓x_astore_2q, x_cl_i, x_cl_r, x_cl_n, x_cl_q, x_cl_0, x_cl_l, ↓x_aload_2r, ↓x_aload_2n, ↓x_aload_2q, ↓x_ifnonnull_n, ↓x_ifnonnull_r, ↓x_ifnonnull_q, ↓x_iconst_m1, ↓x_ireturn, rt93, ↓x_getfield, ft_12_125, ↓x_iconst_1, ↓x_icmp_ne, ft_12_130, ↓x_if_ne, ↓x_bipush_m2, mt_12_144, ↓x_cv0, mt_12_147, ↓x_cv2, ↓x_istore_3, ↓x_iconst_0, mt_12_151, ↓x_cv3, ↓x_dup_i, ↓x_dup_r, ↓x_dup_n, ↓x_isub, ↓x_putfield, x_fit0, x_fit1, x_fit2r, x_fit2n, x_fit2q, ↓x_null, mt_12_155, ↓x_iload_3, Int.reduceAdd, Nat.reduceAdd, true_and, and_true, true_or, or_true, false_or, or_false, reduceCtorEq, false_and, and_false, and_self, or_self, false_implies, true_implies, not_true_eq_false, not_false_eq_true, implies_true, Option.some.injEq, ki12, kg2, kv2_3, kv2_5, ki2, kw2_5, k_rs, k_rn, k_r2, k_c2, up_s, up_n]
    refine h_levelMark hg (l := v + 1) (by omega) e2 td tb ?_
    rw [ebc]
    simp (decide := true) (disch := first | assumption | omega) only [↓u93_0, ↓u93_12, ↓u93_27, ↓u93_30, ↓x_nil, ↓x_om, ↓x_aload_0r, ↓x_aload_0n, ↓x_aload_0q, ↓x_iload_1, ↓x_invokevirtual, mt_12_121, x_ps0, x_ps1, x_l40, x_l41, x_l42, x_l43, x_l44, ↓x_cv1, ↓x_astore_2r, ↓x_astore_2n, ↓x_astore_2q, x_cl_i, x_cl_r, x_cl_n, x_cl_q, x_cl_0, x_cl_l, ↓x_aload_2r, ↓x_aload_2n, ↓x_aload_2q, ↓x_ifnonnull_n, ↓x_ifnonnull_r, ↓x_ifnonnull_q, ↓x_iconst_m1, ↓x_ireturn, rt93, ↓x_getfield, ft_12_125, ↓x_iconst_1, ↓x_icmp_ne, ft_12_130, ↓x_if_ne, ↓x_bipush_m2, mt_12_144, ↓x_cv0, mt_12_147, ↓x_cv2, ↓x_istore_3, ↓x_iconst_0, mt_12_151, ↓x_cv3, ↓x_dup_i, ↓x_dup_r, ↓x_dup_n, ↓x_isub, ↓x_putfield, x_fit0, x_fit1, x_fit2r, x_fit2n, x_fit2q, ↓x_null, mt_12_155, ↓x_iload_3, Int.reduceAdd, Nat.reduceAdd, true_and, and_true, true_or, or_true, false_or, or_false, reduceCtorEq, false_and, and_false, and_self, or_self, false_implies, true_implies, not_true_eq_false, not_false_eq_true, implies_true, Option.some.injEq, ki12, kg2, kv2_3, kv2_5, ki2, kw2_5, k_rs, k_rn, k_r2, k_c2, up_s, up_n]
    refine s_undoActs hg hA (left := bs (v + 1)) (rem := m - bs (v + 1)) (f0 := f0) b400 j1 j2 ⟨hK.1, hI.1, hK.2.1, hK.2.2.1.1, hK.2.2.1.2⟩ hu td dd.1 (by rw [e3, show bs (v + 1) + (m - bs (v + 1)) = m by omega]) f2 f1 (f3 (Or.inl hu)).2 (by omega) nrl (fun Z1 P1 U1 r1 D => ?_)
    obtain ⟨hK2, e14⟩ := K_tbA hI hK j1 j2 st (by omega) D
    have ro1 := D.2.2.2.2
    have fA : ∀ f, f ∉ fp_tb → (y_tb j (m - bs (v + 1)) S).2 f = S.2 f := fun f h => ytbm_A h _ _
    have fF : ∀ f, f ≠ 13 → (y_tb j (m - bs (v + 1)) S).1 f = S.1 f := fun f h => ytbm_F h _ _
    have base : ∀ n' f S', n' ≤ 6000 → (y_tb j (m - bs (v + 1)) S).1 72 = nI n' → w_fr n' (y_tb j (m - bs (v + 1)) S).2 → (y_drop (nI j) (nI (v + 1)) n' (y_tb j (m - bs (v + 1)) S)).2 51 j = nI (v + 1) → r_settle f (y_lvd j (v + 1) (y_drop (nI j) (nI (v + 1)) n' (y_tb j (m - bs (v + 1)) S))) S' → r_cBack t S (nI (m - bs (v + 1))) S' := fun n' f S' z1 z2 z3 z4 z5 => Or.inr ⟨j, v + 1, by omega, et, by rw [hb]; exact hi, g4, g5, Or.inr ⟨bs (v + 1), m - bs (v + 1), n', f, st, by omega, by omega, y4, by rw [g7, show bs (v + 1) + (m - bs (v + 1)) = m by omega], wt, by rw [fA _ (by decide)]; exact g4, z1, z2, z3, z4, z5, rfl⟩⟩
    have st1 : (y_tb j (m - bs (v + 1)) S).2 47 j = 1 := by rw [fA _ (by decide)]; exact st
    have ev1 : (y_tb j (m - bs (v + 1)) S).2 51 j = nI (v + 1) := by rw [fA _ (by decide)]; exact g4
    have hp1 : (up1 ch j ((ch j).drop (m - bs (v + 1))) j).length ≤ ((y_tb j (m - bs (v + 1)) S).2 54 (5 * j + (v + 1))).toNatClampNeg := by
      rw [up1_s, List.length_drop, fA _ (by decide), y4, i_cl (by omega)]
      omega
    have la1 : (y_tb j (m - bs (v + 1)) S).1 66 = S.1 66 := fF _ (by decide)
    generalize y_tb j (m - bs (v + 1)) S = S1 at *
    generalize up1 ch j ((ch j).drop (m - bs (v + 1))) = ch1 at *
    have kDe2 := hK2.2.2.2.2.1
    have ed : dl U1 own j = dl U own j := by unfold dl; rw [e14]
    have tO1 := hK2.1.2.1
    have td1 := (dl_t hK2.1 kDe2.1 j1 j2).1
    rw [ed] at td1
    have lev1 : P1.1 45 (dl U own j) = nI (v + 1) := by
      have := (kDe2.2.2.1 j j1 j2).2.2.2.2.2.1
      rw [ed] at this
      exact this.trans ev1
    obtain ⟨n1, n2⟩ := nl_le hI2.2.1 hI2.2.2.2.1 hI2.1.2.2.1.1 hI2.2.2.2.2.2.2.1
    have a4 := (hK2.1.1.hse tO1).2.2.2.1
    have kSp := hK2.2.2.2.2.2.2.2.1
    have hsi : ∀ o o', o < n → o' < n → k_sp U1 own o = k_sp U1 own o' → o = o' := fun o o' ho ho' e => (hK2.1.2.2.2.1 _ o _ o' _ (Or.inr a4) (Or.inr a4) (kSp.1 o ho) (by rw [e]; exact kSp.1 o' ho')).2
    simp (decide := true) (disch := first | assumption | omega) only [↓u93_0, ↓u93_12, ↓u93_27, ↓u93_30, ↓x_nil, ↓x_om, ↓x_aload_0r, ↓x_aload_0n, ↓x_aload_0q, ↓x_iload_1, ↓x_invokevirtual, mt_12_121, x_ps0, x_ps1, x_l40, x_l41, x_l42, x_l43, x_l44, ↓x_cv1, ↓x_astore_2r, ↓x_astore_2n, ↓x_astore_2q, x_cl_i, x_cl_r, x_cl_n, x_cl_q, x_cl_0, x_cl_l, ↓x_aload_2r, ↓x_aload_2n, ↓x_aload_2q, ↓x_ifnonnull_n, ↓x_ifnonnull_r, ↓x_ifnonnull_q, ↓x_iconst_m1, ↓x_ireturn, rt93, ↓x_getfield, ft_12_125, ↓x_iconst_1, ↓x_icmp_ne, ft_12_130, ↓x_if_ne, ↓x_bipush_m2, mt_12_144, ↓x_cv0, mt_12_147, ↓x_cv2, ↓x_istore_3, ↓x_iconst_0, mt_12_151, ↓x_cv3, ↓x_dup_i, ↓x_dup_r, ↓x_dup_n, ↓x_isub, ↓x_putfield, x_fit0, x_fit1, x_fit2r, x_fit2n, x_fit2q, ↓x_null, mt_12_155, ↓x_iload_3, Int.reduceAdd, Nat.reduceAdd, true_and, and_true, true_or, or_true, false_or, or_false, reduceCtorEq, false_and, and_false, and_self, or_self, false_implies, true_implies, not_true_eq_false, not_false_eq_true, implies_true, Option.some.injEq, lev1, ki12, kg2, kv2_3, kv2_5, ki2, kw2_5, k_rs, k_rn, k_r2, k_c2, up_s, up_n]
    refine h_freeLocks hg hA hK2.1.1 tO1 hK2.2.2.1.1 kSp.1 hsi (fun o ho => by have := hl_len kSp ho; unfold k_hl at this; rw [this]; have := n2 o; omega) (fun U2 hm w2 => ?_)
    obtain ⟨nl2, _, v2, v3⟩ := v_yd (nl := nl) (S := S1) (u := nI j) (v := nI (v + 1))
    have dA : ∀ f, f ∉ fp_L → (y_drop (nI j) (nI (v + 1)) nl S1).2 f = S1.2 f := fun f h => yd_A h
    have dF : ∀ f, f ≠ 72 → (y_drop (nI j) (nI (v + 1)) nl S1).1 f = S1.1 f := fun f h => yd_F h
    have hbase := base nl
    generalize hS2 : y_drop (nI j) (nI (v + 1)) nl S1 = S2 at *
    have go : ∀ x, v_go (nI j) (nI (v + 1)) x = (x.1 == nI j && x.2.2.2.2.2.1 == nI (v + 1)) := fun x => by
      unfold v_go
      have z1 : (nI (v + 1) == (-1 : Int32)) = false := by rw [beq_eq_false_iff_ne]; exact fun z => by rw [i_m1 (by omega)] at z; exact z
      have z2 : (nI (v + 1) == (-2 : Int32)) = false := by
        have : v = 0 ∨ v = 1 ∨ v = 2 ∨ v = 3 := by omega
        rcases this with rfl | rfl | rfl | rfl <;> decide
      rw [z1, z2, Bool.false_or, Bool.false_and, Bool.false_or]
    have vL2 : v_L nl2 S2.2 = (v_L nl S1.2).filter (fun x => !(x.1 == nI j && x.2.2.2.2.2.1 == nI (v + 1))) := by
      rw [v3]
      exact List.filter_congr (fun x _ => by rw [go])
    have lA : ∀ f, f ≠ 51 → (y_lvd j (v + 1) S2).2 f = S2.2 f := fun f h => by unfold y_lvd; dsimp only; rw [up_n h]
    have lL : (y_lvd j (v + 1) S2).2 51 = va_up (S1.2 51) j (nI v) := by
      unfold y_lvd
      dsimp only
      rw [up_s, dA _ (by decide), Nat.add_sub_cancel]
    have lF : (y_lvd j (v + 1) S2).1 = S2.1 := rfl
    have hI3 : I_all n b l nl2 nw (nr + (m - bs (v + 1))) na ne ch1 0 c (T + (m - bs (v + 1))) (y_lvd j (v + 1) S2) := by
      refine I_lvd hI2 j1 j2 st1 ev1 (by omega) hp1 (fun f h => by rw [lF]; exact dF f h) (fun f h => by rw [lA f (nmem h (List.mem_cons_self ..)), dA f (fun z => h (List.mem_cons_of_mem _ z))]) (by rw [lF]; exact v2) lL ?_
      rw [v_L_cg (fun f hf => lA f (by revert f; decide))]
      exact vL2
    have hK3 : K_all N own n b l nl2 nw (nr + (m - bs (v + 1))) ne ch1 0 Z1 P1 U2 r1 S2 := by
      refine K_free (har_of hI2) (lvm_of hI2) hK2 hm w2 dF dA vL2 (fun o ho y hy x hx exy => ?_)
      obtain ⟨u, qq, c1, c2, c3, c4, c5, c6⟩ := kSp.2.2.1 o ho y hy
      obtain ⟨u', o', w, b1, b2, b3, b4, b5, b6, b7, b8, b9, b10, b11, b12⟩ := hI2.2.2.2.1.2.2.2.2.1 x (List.mem_filter.mp hx).1
      have en : nI u = x.1 := by
        have := congrArg (fun z : v_LT => z.1) exy
        dsimp only [LV, LN] at this
        rw [c4, (kDe2.2.2.1 u c1 c2).1] at this
        exact this
      have ew : P1.1 66 y = nI w := by
        have := congrArg (fun z : v_LT => z.2.2.2.2.2.1) exy
        dsimp only [LV, LN] at this
        rw [this]; exact b9
      have uu : u' = u := by rw [← en, i_eq (by omega) (by omega)] at b1; exact b1.symm
      subst uu
      unfold k_goes
      have hq6 : qq ≤ 600 := by
        obtain ⟨_, _, _, xq, _, _, _, _, _, _, _, _, w9, w10, _⟩ := hI2.2.1.2.2.1 u' c1 c2
        rw [w9, i_cl (by omega)] at c6
        omega
      rw [c4, ew, c5, decide_eq_true (show (0 : Int32) ≤ nI qq from nI_pos' (by omega)), Bool.and_true, ← en, b9]
      by_cases cu : u' = j
      · subst cu
        rw [ed, decide_eq_true rfl, Bool.true_and]
        rw [ev1, i_le (by omega) (by omega)] at b11
        have e1' : (nI (v + 1) ≤ nI w) = (w = v + 1) := by rw [i_le (by omega) (by omega)]; exact propext ⟨fun z => by omega, fun z => by omega⟩
        have e2' : (nI w = nI (v + 1)) = (w = v + 1) := i_eq (by omega) (by omega)
        by_cases cw : w = v + 1
        · rw [cw, decide_eq_true (Int32.le_refl _)]; simp
        · rw [decide_eq_false (by rw [e1']; exact cw), show (nI w == nI (v + 1)) = false from beq_eq_false_iff_ne.mpr (by rw [Ne, e2']; exact cw), Bool.and_false]
      · have dne : ¬ dl U1 own u' = dl U own j := fun z => cu (dl_inj kDe2.1 kDe2.2.1 c1 c2 j1 j2 (by rw [ed]; exact z))
        rw [decide_eq_false dne, Bool.false_and, beq_eq_false_iff_ne.mpr (fun z => cu (by rw [i_eq (by omega) (by omega)] at z; exact z)), Bool.false_and]
    have ed2 : ∀ u, dl U2 own u = dl U own u := fun u => by
      have : U2.2.1 (own + 14) = U1.2.1 (own + 14) := hm.2.2.2 _ (fun o ho e => by
        have s1 := (hK2.1.1.spt (k_sp_t hK2.1.1 tO1 kSp.1 ho)).1
        have a5 := (hK2.1.1.hse tO1).2.2.2.2.1
        rw [← e, a5] at s1
        exact absurd s1 (by decide))
      unfold dl
      rw [this, e14]
    have hK4 : K_all N own n b l nl2 nw (nr + (m - bs (v + 1))) ne ch1 0 Z1 (k_wr P1 45 (dl U own j) (nI v)) U2 r1 (y_lvd j (v + 1) S2) := by
      have := K_lvl (v := v) (S' := y_lvd j (v + 1) S2) (fun u u1 u2 hus i hi => ?_) (fun u hu => ?_) hK3 j1 j2 (by rw [dA _ (by decide)]; exact st1) (w := v + 1) (by rw [dA _ (by decide)]; exact ev1) (by omega) (by omega) lF lA (by rw [lL, dA _ (by decide)])
      · rw [ed2] at this; exact this
      · have := har_of hI2 u u1 u2 (by unfold undw at hus ⊢; rw [dA _ (by decide)] at hus; exact hus) i hi
        unfold ar at this ⊢
        rw [dA _ (by decide)]; exact this
      · refine lvm_of hI2 u ?_
        unfold v_lv at hu ⊢
        rw [dA _ (by decide)] at hu
        exact hu
    simp (decide := true) (disch := first | assumption | omega) only [↓u93_0, ↓u93_12, ↓u93_27, ↓u93_30, ↓x_nil, ↓x_om, ↓x_aload_0r, ↓x_aload_0n, ↓x_aload_0q, ↓x_iload_1, ↓x_invokevirtual, mt_12_121, x_ps0, x_ps1, x_l40, x_l41, x_l42, x_l43, x_l44, ↓x_cv1, ↓x_astore_2r, ↓x_astore_2n, ↓x_astore_2q, x_cl_i, x_cl_r, x_cl_n, x_cl_q, x_cl_0, x_cl_l, ↓x_aload_2r, ↓x_aload_2n, ↓x_aload_2q, ↓x_ifnonnull_n, ↓x_ifnonnull_r, ↓x_ifnonnull_q, ↓x_iconst_m1, ↓x_ireturn, rt93, ↓x_getfield, ft_12_125, ↓x_iconst_1, ↓x_icmp_ne, ft_12_130, ↓x_if_ne, ↓x_bipush_m2, mt_12_144, ↓x_cv0, mt_12_147, ↓x_cv2, ↓x_istore_3, ↓x_iconst_0, mt_12_151, ↓x_cv3, ↓x_dup_i, ↓x_dup_r, ↓x_dup_n, ↓x_isub, ↓x_putfield, x_fit0, x_fit1, x_fit2r, x_fit2n, x_fit2q, ↓x_null, mt_12_155, ↓x_iload_3, Int.reduceAdd, Nat.reduceAdd, true_and, and_true, true_or, or_true, false_or, or_false, reduceCtorEq, false_and, and_false, and_self, or_self, false_implies, true_implies, not_true_eq_false, not_false_eq_true, implies_true, Option.some.injEq, ki12, kg2, kv2_3, kv2_5, ki2, kw2_5, k_rs, k_rn, k_r2, k_c2, up_s, up_n]
    rw [lev1, i_s1 (by omega), Nat.add_sub_cancel]
    refine s_settle0 hg hA hI3 hK4 (fun Z5 P5 U5 r5 S5 l5 nl5 nw5 nr5 na5 ch5 x5 y5 f hI5 hK5 hdl ro5 la h4 hr => ?_)
    simp (decide := true) (disch := first | assumption | omega) only [↓u93_0, ↓u93_12, ↓u93_27, ↓u93_30, ↓x_nil, ↓x_om, ↓x_aload_0r, ↓x_aload_0n, ↓x_aload_0q, ↓x_iload_1, ↓x_invokevirtual, mt_12_121, x_ps0, x_ps1, x_l40, x_l41, x_l42, x_l43, x_l44, ↓x_cv1, ↓x_astore_2r, ↓x_astore_2n, ↓x_astore_2q, x_cl_i, x_cl_r, x_cl_n, x_cl_q, x_cl_0, x_cl_l, ↓x_aload_2r, ↓x_aload_2n, ↓x_aload_2q, ↓x_ifnonnull_n, ↓x_ifnonnull_r, ↓x_ifnonnull_q, ↓x_iconst_m1, ↓x_ireturn, rt93, ↓x_getfield, ft_12_125, ↓x_iconst_1, ↓x_icmp_ne, ft_12_130, ↓x_if_ne, ↓x_bipush_m2, mt_12_144, ↓x_cv0, mt_12_147, ↓x_cv2, ↓x_istore_3, ↓x_iconst_0, mt_12_151, ↓x_cv3, ↓x_dup_i, ↓x_dup_r, ↓x_dup_n, ↓x_isub, ↓x_putfield, x_fit0, x_fit1, x_fit2r, x_fit2n, x_fit2q, ↓x_null, mt_12_155, ↓x_iload_3, Int.reduceAdd, Nat.reduceAdd, true_and, and_true, true_or, or_true, false_or, or_false, reduceCtorEq, false_and, and_false, and_self, or_self, false_implies, true_implies, not_true_eq_false, not_false_eq_true, implies_true, Option.some.injEq, ki12, kg2, kv2_3, kv2_5, ki2, kw2_5, k_rs, k_rn, k_r2, k_c2, up_s, up_n]
    refine fin S5 _ (hbase f S5 (by omega) hI2.2.2.2.1.1 (fun k hk => ?_) (by rw [dA _ (by decide)]; exact ev1) hr) Z5 P5 U5 r5 ⟨N, n, b, l5, nl5, nw5, nr5, na5, ne, ch5, T + ((m - bs (v + 1)) + x5), by rw [← Nat.add_assoc]; exact hI5.next hc, hK5, hR.step (ro1.tr ro5) (dL := y5) (by rw [la, lF, dF _ (by decide), la1]) (by omega) (by omega)⟩
    obtain ⟨_, _, _, _, _, _, _, _, _, _, _, _, _, _, b3⟩ := hI2.2.2.2.1.2.2.2.2.1 _ (mem_vL hk)
    rcases b3 with b3 | b3
    · exact Or.inl b3
    · exact Or.inr b3.1
end UA
