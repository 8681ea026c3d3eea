/-! one begins: the class's side -/
section UD
variable {g : e_G} {Z Z' : k_Z} {P P' : k_P} {U U' : k_U} {r' r0 : Nat × Nat} {S S' : m_S} {N own n b l nl nw nr na ne c T m sl x : Nat} {ch : Nat → List Nat} {rr tr : Int32}
theorem K_come (hI : I_all n b l nl nw nr na ne ch 0 c T S) (hK : K_all N own n b l nl nw nr ne ch 0 Z P U (m, sl) S) (hb : b < 400) (hs : come b l nr rr tr S S') (E' : k_E N own Z' U' r') (hst : St Z P U own b l nr m rr tr x Z' P' U') : K_all N own n (b + 1) (l + 1) nl nw (nr + 1) ne (up1 ch (b + 1) []) 0 Z' P' U' r' S' := by
  have lvm := lvm_of hI
  have har := har_of hI
  obtain ⟨hL, hD, hE, hLk, hV, hM, hP, hX⟩ := hI
  obtain ⟨E, kLg, ⟨hs1, hS⟩, ⟨hs5, hS5⟩, kDe, kEn, kAs, kLk, kVe, kMi⟩ := hK
  obtain ⟨fA, fF, s1, s2, s3, s4, s5, s6, s7, s8, s9, rwe, rwn⟩ := hs
  obtain ⟨y0, y1, y2, y3, y4, y5, y6, y7, y8, y9, y10, y11, y12, y13⟩ := hst
  have tO := E.2.1
  obtain ⟨a1, a2, a3, a4, a5, a6, a7, a8, a9, a10⟩ := E.1.hse tO
  have t18 : Z.1 (own + 18) = 32 := E.1.log a8
  have lt : ∀ a, Z.1 a ≠ 0 → a < m := fun a h => E.lt h
  obtain ⟨z1, z2, z3, z4, z5, z6, z7⟩ := hD.2.2.2.1 (b + 1) (by omega) (Or.inr (by omega))
  have stn : ∀ u, u ≤ b → S'.2 47 u = S.2 47 u := fun u hu => by rw [s5, up_n (by omega)]
  have stb : S'.2 47 (b + 1) = 1 := by rw [s5, up_s]
  have split : ∀ u, u ≤ b + 1 → u ≤ b ∨ u = b + 1 := fun u hu => by omega
  have chn : ∀ u, u ≤ b → up1 ch (b + 1) [] u = ch u := fun u hu => up1_n (by omega)
  have chb : up1 ch (b + 1) [] (b + 1) = [] := up1_s
  have dlU : ∀ u, 1 ≤ u → u ≤ b → dl U' own u = dl U own u := fun u u1 u2 => by
    unfold dl
    rw [y11, List.getD_eq_getElem?_getD, List.getD_eq_getElem?_getD, List.getElem?_append_left (by rw [kDe.1]; omega)]
  have dlB : dl U' own (b + 1) = m := by
    unfold dl
    rw [y11, List.getD_eq_getElem?_getD, List.getElem?_append_right (by rw [kDe.1]; omega), kDe.1, show b + 1 - 1 - b = 0 by omega]
    rfl
  have dlt : ∀ u, 1 ≤ u → u ≤ b → dl U own u < m ∧ dl U own u + 1 < m ∧ dl U own u + 2 < m := fun u u1 u2 => by
    obtain ⟨q1, q2, q3⟩ := dl_t E kDe.1 u1 u2
    exact ⟨lt _ (by rw [q1]; decide), lt _ (by rw [q2]; decide), lt _ (by rw [q3]; decide)⟩
  have spU : ∀ o, k_sp U' own o = k_sp U own o := fun o => by unfold k_sp; rw [y9]
  have thU : ∀ s o, k_th U' s o = k_th U s o := fun s o => by unfold k_th; rw [y9]
  have spt : ∀ o, o < n → Z.1 (k_sp U own o) = 10 := fun o ho => k_sp_t E.1 tO kLk.1 ho
  have ace : ac_eq S.2 S'.2 := ⟨fA _ (by decide), fA _ (by decide), fA _ (by decide), fA _ (by decide), fA _ (by decide), fA _ (by decide), fA _ (by decide), fA _ (by decide), fA _ (by decide)⟩
  have rlt : ∀ y ∈ U.2.1 (own + 18), y < m := fun y hy => lt y (by rw [E.1.lro t18 hy]; decide)
  have lve : v_lv (l + 1) S'.2 = v_lv l S.2 ++ [b + 1] := v_lv_app s4 hD.1
  have lgB : K_lg own b (nr + 1) (up1 ch (b + 1) []) P' U' S' := kLg.ext (xs := [x]) y13 (by simp) (fun y hy => by rw [List.mem_singleton] at hy; intro h; have := rlt y h; omega) rwe ace (fun f hf y hy => y3 f y (rlt y hy)) (fun j y hy => by
      cases j with
      | zero =>
        have ey : x = y := by simpa using hy
        subst ey
        obtain ⟨w1, w2, w3, w4, w5, w6, w7, w8⟩ := rwn
        refine ⟨(?_ : lg_row P' x S'.2 nr), Or.inl (by rw [y6]; rfl), (by rw [w1]; decide : ¬ S'.2 17 nr = 2)⟩
        unfold lg_row
        rw [y6, y6, y6, y6, y6, y6, y6, y6, w1, w2, w3, w4, w5, w6, w7, w8]
        exact ⟨rfl, rfl, rfl, rfl, rfl, rfl, rfl, rfl⟩
      | succ j => simp at hy) (fun u u1 u2 hus => ⟨chn u u2, by unfold undw at hus ⊢; rw [stn u u2] at hus; exact hus⟩) har
  have shk : ∀ s x0, k_Sh Z P U s n → R_sh P U s n S.2 x0 → k_Sh Z' P' U' s n ∧ R_sh P' U' s n S'.2 x0 := fun s x0 hs hS => by
    have sl' := lt s (by rw [hs.1]; decide)
    have thl : ∀ o, o < n → k_th U s o < m ∧ k_th U s o + 1 < m := fun o ho => by
      obtain ⟨q1, q2⟩ := k_th_t E.1 hs ho
      exact ⟨lt _ (by rw [q1]; decide), lt _ (by rw [q2]; decide)⟩
    exact ⟨⟨(y1 s sl').trans hs.1, (y3 _ _ sl').trans hs.2.1, hs.2.2.1, fun o ho => by rw [thU, y9]; exact hs.2.2.2 o ho⟩, R_sh.cgU (U := U) (hS.keep (fun f _ o ho => y3 f _ (thl o ho).1) (fun o ho => y4 _ (thl o ho).2) (fA _ (by decide)) (fA _ (by decide)) (fA _ (by decide)) (fun o _ => ⟨by rw [fA _ (by decide)], by rw [fA _ (by decide)], by rw [fA _ (by decide)]⟩) (fun x _ _ => by rw [fA _ (by decide)])) (fun o _ => thU s o)⟩
  have mno : m ∉ U.2.1 (own + 14) := fun h => by
    have := lt m (by rw [E.1.lde a5 h]; decide)
    omega
  refine ⟨E', ?_, shk _ _ hs1 hS, shk _ _ hs5 hS5, ⟨by rw [y11, List.length_append, kDe.1]; rfl, ?_, fun u u1 u2 => ?_, fun u u1 u2 v v1 v2 v3 => ?_, fun u u1 u2 => ?_, ?_, fun j u hj => ?_⟩, ?_, fun u u1 u2 hin => ?_, ?_, ?_, ?_⟩
  · obtain ⟨k1, k2, k3, k4, k5⟩ := lgB
    refine ⟨k1, k2, k3, fun u u1 u2 hus ρ y hy hw ho => ?_, fun u u1 u2 hus i hi => ?_⟩
    · rcases split u u2 with h | h
      · exact k4 u u1 h hus ρ y hy hw ho
      · exfalso
        have hρ : ρ < nr + 1 := by rw [← k1]; exact (List.getElem?_eq_some_iff.mp hy).1
        by_cases cρ : ρ = nr
        · rw [cρ, rwn.1] at hw; exact absurd hw (by decide)
        · obtain ⟨w1, w2, _⟩ := rwe ρ (by omega)
          rw [w1] at hw
          rw [w2, h] at ho
          obtain ⟨t, o, k, b1, b2, b3, _⟩ := (hL.2.2.2.2.2.1 ρ (by omega)).2.1 hw
          rw [b1, i_eq (by omega) (by omega)] at ho
          omega
    · rcases split u u2 with h | h
      · exact k5 u u1 h hus i hi
      · rw [h, chb] at hi; cases hi
  · rw [y11]
    refine List.nodup_append.mpr ⟨kDe.2.1, by simp, fun a ha b' hb' => ?_⟩
    rw [List.mem_singleton] at hb'
    rw [hb']
    exact fun e => mno (e ▸ ha)
  · rcases split u u2 with h | h
    · rw [dlU u u1 h]
      refine ⟨by rw [y3 _ _ (dlt u u1 h).1]; exact (kDe.2.2.1 u u1 h).1, de_prs.mpr (fun p hp => ?_)⟩
      rw [y3 _ _ (dlt u u1 h).1, kDe.p u1 h p hp]
      by_cases c1 : p.2 ∈ [49, 50, 47, 58]
      · have : p.2 = 49 ∨ p.2 = 50 ∨ p.2 = 47 ∨ p.2 = 58 := by simpa using c1
        rcases this with e | e | e | e <;> rw [e]
        · rw [s6, up_n (by omega)]
        · rw [s7, up_n (by omega)]
        · rw [s5, up_n (by omega)]
        · rw [s9, up_n (by omega)]
      · rw [fA _ (by revert p; decide)]
    · rw [h, dlB, y5, y5, y5, y5, y5, y5, y5, y5, y5, y5, y5, s6, s7, s5, s9, up_s, up_s, up_s, up_s, fA 48 (by decide), fA 51 (by decide), fA 52 (by decide), fA 55 (by decide), fA 56 (by decide), fA 57 (by decide), z2, z3, z4, z5, z6, z7]
      exact ⟨rfl, rfl, rfl, rfl, rfl, rfl, rfl, rfl, rfl, rfl, rfl⟩
  · rcases split u u2 with h | h
    · rw [fA 51 (by decide)] at v2
      rw [dlU u u1 h, y4 _ (dlt u u1 h).2.2, fA 54 (by decide)]
      exact kDe.2.2.2.1 u u1 h v v1 v2 v3
    · rw [h, fA 51 (by decide), z3, show (0 : Int32) = nI 0 from rfl, i_le (by omega) (by omega)] at v2
      omega
  · rcases split u u2 with h | h
    · obtain ⟨f0, f1, f2, f3⟩ := kDe.2.2.2.2.1 u u1 h
      refine ⟨f0, f1, by rw [dlU u u1 h, y3 _ _ (dlt u u1 h).1]; exact f2, fun hus => ?_⟩
      obtain ⟨g1, g2⟩ := f3 (by unfold undw at hus ⊢; rw [stn u h] at hus; exact hus)
      rw [chn u h]
      exact ⟨fun z => by unfold undw at z; rw [stn u h] at z; have := g1 z; omega, fun j hj => by unfold ar; rw [fA _ (by decide)]; exact g2 j hj⟩
    · refine ⟨nr, by have := hP.1; have := hP.2.1; have := hP.2.2.1; omega, by rw [h, dlB, y5, if_pos rfl], fun _ => ⟨fun _ => by omega, fun j hj => by rw [h, chb] at hj; cases hj⟩⟩
  · rw [y12, lve, List.map_append, kDe.2.2.2.2.2.1]
    congr 1
    · exact List.map_congr_left (fun u hu => (dlU u (lvm u hu).1 (lvm u hu).2).symm)
    · simp only [List.map_cons, List.map_nil]; rw [dlB]
  · rw [lve] at hj
    by_cases cj : j < l
    · rw [List.getElem?_append_left (by rw [v_lvl]; exact cj)] at hj
      have hb' := lvm u (List.mem_of_getElem? hj)
      rw [dlU u hb'.1 hb'.2, y3 _ _ (dlt u hb'.1 hb'.2).1]
      exact kDe.2.2.2.2.2.2 j u hj
    · rw [List.getElem?_append_right (by rw [v_lvl]; omega), v_lvl] at hj
      by_cases c0 : j - l = 0
      · rw [c0] at hj
        have eu : b + 1 = u := by simpa using hj
        rw [← eu, dlB, y5, if_neg (by decide), if_pos rfl, show j = l by omega]
      · rw [List.getElem?_eq_none (by simp only [List.length_cons, List.length_nil]; omega)] at hj
        cases hj
  · unfold K_en at kEn ⊢
    rw [y10 _ (by omega) (by omega) (by omega), kEn, fA _ (by decide)]
    refine List.map_congr_left (fun e he => ?_)
    obtain ⟨t, _, b1, b2, b3, _⟩ := hE.2.2.2.1 e (List.mem_range.mp he)
    rw [b1, i_cl (by omega)]
    exact (dlU t b2 b3).symm
  · have hin2 : u ≤ b ∧ inp S.2 0 u := by
      rcases split u u2 with h | h
      · exact ⟨h, by unfold inp at hin ⊢; rw [stn u h] at hin; exact hin⟩
      · rcases hin with w | w
        · rw [h, stb] at w; exact absurd w (by decide)
        · omega
    have old := kAs u u1 hin2.1 hin2.2
    have al := (dlt u u1 hin2.1).2.1
    unfold dp o_1 at old ⊢
    rw [dlU u u1 hin2.1, y3 _ _ al, y3 _ _ al, y3 _ _ al, y3 _ _ al, y3 _ _ al, y3 _ _ al, stn u hin2.1, fA 67 (by decide), fA 68 (by decide), fA 69 (by decide), fA 70 (by decide), fA 71 (by decide), fA 7 (by decide)]
    exact old
  · obtain ⟨g1, g2, g3, g4, g5, g6⟩ := kLk
    have vl : v_L nl S'.2 = v_L nl S.2 := v_L_cg (fun f hf => fA f (by revert f; decide))
    have vw : v_W nw S'.2 = v_W nw S.2 := v_W_cg (fun f hf => fA f (by revert f; decide))
    have s31 : ∀ o, o < n → Z.1 (k_sp U own o + 1) = 31 ∧ Z.1 (k_sp U own o + 2) = 31 := fun o ho => ⟨(E.1.spt (spt o ho)).1, (E.1.spt (spt o ho)).2.1⟩
    have l31 : ∀ a, Z.1 a = 31 → U'.2.1 a = U.2.1 a := fun a h => y10 a (fun e => by rw [e, a5] at h; exact absurd h (by decide)) (fun e => by rw [e, a6] at h; exact absurd h (by decide)) (fun e => by rw [e, t18] at h; exact absurd h (by decide))
    have eh : ∀ o, o < n → k_hl U' own o = k_hl U own o := fun o ho => by unfold k_hl; rw [spU]; exact l31 _ (s31 o ho).1
    have eq : ∀ o, o < n → k_ql U' own o = k_ql U own o := fun o ho => by unfold k_ql; rw [spU]; exact l31 _ (s31 o ho).2
    have yl : ∀ o y, o < n → y ∈ k_hl U own o ∨ y ∈ k_ql U own o → y < m := fun o y ho hy => by
      rcases hy with hy | hy
      · exact lt y (by rw [E.1.llo (s31 o ho).1 hy]; decide)
      · exact lt y (by rw [E.1.llo (s31 o ho).2 hy]; decide)
    refine ⟨fun o ho => by rw [spU, y9]; exact g1 o ho, fun o ho => ⟨?_, ?_, by rw [spU, y3 _ _ (lt _ (by rw [spt o ho]; decide)), fA _ (by decide)]; exact (g2 o ho).2.2⟩, fun o ho y hy => ?_, fun o ho y hy => ?_, fun o ho => by rw [eh o ho]; exact g5 o ho, fun u u1 u2 => ?_⟩
    · rw [eh o ho, vl, ← (g2 o ho).1, if_pos rfl, if_pos rfl]
      refine List.map_congr_left (fun y hy => ?_)
      obtain ⟨u, q, c1, c2, c3, c4, c5, c6⟩ := g3 o ho y hy
      have hy' := yl o y ho (Or.inl hy)
      unfold LV
      rw [y2, c4, y3 _ _ (dlt u c1 c2).1, y3 _ _ hy', y3 _ _ hy', y3 _ _ hy', y3 _ _ hy', y3 _ _ hy', y3 _ _ hy', y3 _ _ (dlt u c1 c2).1, y3 _ _ (dlt u c1 c2).1]
    · rw [eq o ho, vw, ← (g2 o ho).2.1]
      refine List.map_congr_left (fun y hy => ?_)
      obtain ⟨u, c1, c2, c3, c4, _⟩ := g4 o ho y hy
      have hy' := yl o y ho (Or.inr hy)
      unfold WV
      rw [y2, c4, y3 _ _ (dlt u c1 c2).1, y3 _ _ hy', y3 _ _ hy', y3 _ _ hy', y3 _ _ hy', y3 _ _ hy']
    · rw [eh o ho] at hy
      obtain ⟨u, q, c1, c2, c3, c4, c5, c6⟩ := g3 o ho y hy
      exact ⟨u, q, c1, by omega, by unfold undw at c3 ⊢; rw [stn u c2]; exact c3, by rw [y2, dlU u c1 c2]; exact c4, by rw [y3 _ _ (yl o y ho (Or.inl hy))]; exact c5, by rw [fA _ (by decide)]; exact c6⟩
    · rw [eq o ho] at hy
      obtain ⟨u, c1, c2, c3, c4, c5, c6, c7⟩ := g4 o ho y hy
      have hy' := yl o y ho (Or.inr hy)
      exact ⟨u, c1, by omega, by rw [stn u c2]; exact c3, by rw [y2, dlU u c1 c2]; exact c4, by rw [dlU u c1 c2, y7 _ (by have := (dlt u c1 c2).1; omega)]; exact c5, by rw [y3 _ _ hy', fA _ (by decide)]; exact c6, by rw [y3 _ _ hy', fA _ (by decide)]; exact c7⟩
    · rcases split u u2 with h | h
      · obtain ⟨q1, q2⟩ := g6 u u1 h
        rw [dlU u u1 h, y7 _ (by have := (dlt u u1 h).1; omega), stn u h]
        refine ⟨q1, fun y hy => ?_⟩
        obtain ⟨o, o1, o2, o3, o4⟩ := q2 y hy
        exact ⟨o, o1, by rw [eq o o1]; exact o2, by rw [y2]; exact o3, by rw [y3 _ _ (yl o y o1 (Or.inr o2))]; exact o4⟩
      · rw [h, dlB, y8]
        exact ⟨fun _ => rfl, fun y hy => by cases hy⟩
  · refine kVe.cg spU (fun o ho => ?_) (fun f hf => fA f (by revert f; decide))
    obtain ⟨w1, w2, w3, w4⟩ := E.1.spt (spt o ho)
    exact ⟨y3 _ _ (lt _ (by rw [spt o ho]; decide)), y4 _ (lt _ (by rw [w3]; decide)), y4 _ (lt _ (by rw [w4]; decide))⟩
  · have rg := E.1.rng a9
    have t2r := E.1.shf a1
    have lq : ∀ p ∈ mis, own + p.2.1 < m := by
      simp only [mis, List.mem_cons, List.not_mem_nil, or_false, forall_eq_or_imp, forall_eq]
      have lo := lt own (by rw [tO]; decide)
      have l17 := lt (own + 17) (by rw [a8]; decide)
      have l25 := lt (own + 25) (by rw [a10]; decide)
      have l19 := lt (own + 19) (by rw [a9]; decide)
      have l3 : own + 3 < m := lt _ (by rw [show own + 3 = own + 1 + 2 from rfl, t2r.2.1]; decide)
      exact ⟨lo, lo, l17, l17, l17, l25, l25, l25, l25, l25, l25, l25, l19, l3⟩
    exact kMi.cg (fun p hp => Or.inl ⟨y3 _ _ (lq p hp), fF _ (by clear lq; revert p; decide)⟩) (y3 _ _ (lt _ (by rw [a9]; decide))) (fF _ (by decide)) (fF _ (by decide)) (y4 _ (lt _ (by rw [show own + 24 = own + 19 + 5 from rfl, rg.2.2.2.2]; decide))) (fA _ (by decide)) (by rw [fF _ (by decide), fA _ (by decide), y4 _ (lt _ (by rw [show own + 4 = own + 1 + 3 from rfl, t2r.2.2]; decide))]; exact (mi_iff.mp kMi).2.2.2)
/-- start, both -/
theorem s_start {Ψ : e_Q} {B : Nat → Option e_Cl} {r : Nat × Nat} (hg : e_GK g) (hA : e_AK g) (hc : c + 1 ≤ 512) (hV : V own c r0 Z P U r S) {bb ll : Nat} (eb : S.1 44 = nI bb) (hbb : bb ≤ 400) (el : S.1 45 = nI ll) (hll : ll ≤ 12) (q : ∀ Z' P' U' r', V own (c + 1) r0 Z' P' U' r' (y_comes rr tr bb ll S).2 → Ψ (some (.int (y_comes rr tr bb ll S).1)) (K_H Z' P' U' (B, r'))) : e_Sc g 132 [.ref own, .int rr, .int tr] (K_H Z P U (B, r)) Ψ := by
  have hV0 := hV
  obtain ⟨N, n, b, l, nl, nw, nr, na, ne, ch, T, hI, hK, hR⟩ := hV
  have e1 : bb = b := by have := hI.2.1.2.1; have := hI.2.1.1; rw [eb, i_eq (by omega) (by omega)] at *; assumption
  have e2 : ll = l := by
    have h := hI.2.1.2.2.2.2.1
    have h2 := hI.2.1.2.2.2.2.2.1
    rw [el, i_eq (by omega) (by omega)] at h; exact h
  subst e1
  subst e2
  have nrl : nr ≤ 1024 := by have := hI.2.2.2.2.2.2.1.1; have := hI.2.2.2.2.2.2.1.2.1; have := hI.2.2.2.2.2.2.1.2.2.1; omega
  obtain ⟨m, sl⟩ := r
  refine h_start hg hA hK.1 hK.2.2.2.2.1.1 (by rw [hK.2.2.2.2.1.2.2.2.2.2.1, List.length_map, v_lvl]) hK.2.1.1 hbb hll (by omega) (fun hf => ?_) (fun hf Z' P' U' r' x E' hst ro => ?_)
  · have := q Z P U (m, sl) (by unfold y_comes; rw [if_pos hf]; exact hV0.next hc)
    unfold y_comes at this
    rw [if_pos hf] at this
    exact this
  · have hco := come_ok (b := bb) (l := ll) (rr := rr) (tr := tr) hI.1.1 (by omega)
    have := q Z' P' U' r' (by
      unfold y_comes
      rw [if_neg hf]
      refine ⟨N, n, bb + 1, ll + 1, nl, nw, nr + 1, na, ne, _, T + 1, I_come hI hc (by omega) (by omega) hco, K_come hI hK (by omega) hco E' hst, hR.step ro (dL := 0) (by rw [hco.2.1 _ (by decide)]; rfl) (by omega) (by omega)⟩)
    unfold y_comes at this
    rw [if_neg hf] at this
    exact this
end UD
