/-! asking: the reference's steps -/
section SI
variable {Z : k_Z} {P : k_P} {U : k_U} {r : Nat × Nat} {S S0 S1 S' : m_S} {A A' : m_A} {N own n b l nl nw nr na ne t q o m cur c T : Nat} {ch : Nat → List Nat} {v : v_N} {e : Bool}
theorem askOk_cg (h : ∀ f, f ∉ fp_st → A' f = A f) (hk : askOk n A t) : askOk n A' t := by
  unfold askOk at hk ⊢
  rw [h 67 (by decide), h 68 (by decide), h 69 (by decide), h 70 (by decide), h 4 (by decide), h 9 (by decide)]
  exact hk
theorem R_ob_cg (h : ∀ f, f ∉ fp_st → A' f = A f) (hk : R_ob n A) : R_ob n A' := by
  unfold R_ob at hk ⊢
  rw [h 4 (by decide), h 7 (by decide), h 5 (by decide)]
  exact hk
theorem nds_ok (hob : R_ob n S.2) (hk : askOk n S.2 t) (hA : ∀ f, f ∉ fp_st → S0.2 f = S.2 f) (eq : S0.2 71 t = nI q) (hq : q ≤ 100) : ∃ S1, r_needs t S0 S1 ∧ nds t q S1 ∧ (∀ g, g ∉ fp_N → S1.2 g = S0.2 g) ∧ ∀ g, g ≠ 87 → S1.1 g = S0.1 g := by
  obtain ⟨S1, h1, h2, h3, c, h4, h5, h6, h7⟩ := ns_ok (R_ob_cg hA hob) (askOk_cg hA hk) eq hq
  have e1 : needAt S1.2 t q = needAt S0.2 t q := needAt_cg (fun f hf => h2 f (fun z => hf (by unfold fp_st; exact List.mem_append_left _ (List.mem_append_left _ (List.mem_append_left _ z)))))
  exact ⟨S1, h1, ⟨c, h4, h5, by rw [e1]; exact h6, by rw [e1]; exact h7⟩, h2, h3⟩
theorem sub_len : ∀ (l1 l2 : List Nat), l1.Nodup → (∀ x ∈ l1, x ∈ l2) → l1.length ≤ l2.length
  | [], _, _, _ => Nat.zero_le _
  | x :: l1, l2, nd, h => by
    rw [List.nodup_cons] at nd
    have h0 := h x List.mem_cons_self
    have := sub_len l1 (l2.erase x) nd.2 (fun y hy => (List.mem_erase_of_ne (show y ≠ x from fun z => nd.1 (by rw [← z]; exact hy))).mpr (h y (List.mem_cons_of_mem _ hy)))
    rw [List.length_erase_of_mem h0] at this
    have := List.length_pos_of_mem h0
    simp only [List.length_cons]
    omega
/-- beside one that does not wait there is a seat -/
theorem nw_lt (hI : I_all n b l nl nw nr na ne ch cur c T S) (h1 : 1 ≤ t) (h2 : t ≤ b) (st1 : S.2 47 t = 1) : nw + 1 ≤ 12 := by
  obtain ⟨hL, hD, hE, hK, hV, hM, hP, hX⟩ := hI
  obtain ⟨d1, d2, d3, d4, d5, d6, d7, d8, d9, d10, d11⟩ := hD
  obtain ⟨k1, k2, k3, k4, k5, k6, k7, k8, _⟩ := hK
  have own : ∀ x ∈ v_W nw S.2, ∃ u, x.1 = nI u ∧ 1 ≤ u ∧ u ≤ b ∧ S.2 47 u = 2 := fun x hx => by
    obtain ⟨u, o, a1, a2, a3, a4, _⟩ := k6 x hx
    exact ⟨u, a1, a2, a3, a4⟩
  have nd : (t :: (v_W nw S.2).map (fun x => x.1.toNatClampNeg)).Nodup := by
    rw [List.nodup_cons]
    refine ⟨fun z => ?_, ?_⟩
    · obtain ⟨x, x1, x2⟩ := List.mem_map.mp z
      obtain ⟨u, a1, a2, a3, a4⟩ := own x x1
      rw [a1, i_cl (by omega)] at x2
      subst x2
      rw [st1] at a4
      exact absurd a4 (by decide)
    · unfold List.Nodup at k7 ⊢
      rw [List.pairwise_map] at k7 ⊢
      refine k7.imp_of_mem (fun {x y} hx hy hne z => hne ?_)
      obtain ⟨u, a1, a2, a3, _⟩ := own x hx
      obtain ⟨w, c1, c2, c3, _⟩ := own y hy
      rw [a1, c1, i_cl (by omega), i_cl (by omega)] at z
      rw [a1, c1, z]
  have := sub_len _ (v_lv l S.2) nd (fun u hu => by
    rcases List.mem_cons.mp hu with z | z
    · subst z; exact (d9 u).mpr ⟨h1, h2, Or.inl st1⟩
    · obtain ⟨x, x1, x2⟩ := List.mem_map.mp z
      obtain ⟨w, a1, a2, a3, a4⟩ := own x x1
      rw [a1, i_cl (by omega)] at x2
      subst x2
      exact (d9 w).mpr ⟨a2, a3, Or.inr a4⟩)
  rw [v_lvl, List.length_cons, List.length_map, v_Wl] at this
  omega
theorem ah_wu {s : Nat} : ∀ (m : Nat) (A : m_A), w_ah 13 A → s + m ≤ 12 → w_ah 13 (y_wu s m A)
  | 0, _, h, _ => h
  | m + 1, A, h, hm => by rw [y_wu]; exact ah_wu m _ (ah_mvW h (by omega)) (by omega)
/-- what is asked for now -/
theorem now_ok (hI : I_all n b l nl nw nr na ne ch t c T S) (eq : S.2 71 t = nI q) (hn : nds t q S) (hv : needAt S.2 t q = some v) (ho : o < n) (ov : v.1 = nI o) : (∃ c, w_now t q c o nl nw S) ∧ y_held t q o nl S = (v_LO (nI o) (v_L nl S.2)).any (v_hf (nI t) v.2.1 v.2.2.1 v.2.2.2) ∧ y_ahd t o nl S = (v_LO (nI o) (v_L nl S.2)).any (fun x => x.1 == nI t) ∧
    y_blk t q o nl nw S = ((v_LO (nI o) (v_L nl S.2)).any (v_ag (S.2 4 o) (nI t) v.2.1 v.2.2.1 v.2.2.2) || (v_WO (nI o) ((v_W nw S.2).take (y_seat (nI o) (y_ahd t o nl S) nw S.2))).any (v_agW (S.2 4 o) (nI t) v.2.1 v.2.2.1 v.2.2.2)) ∧ S.2 88 q = v.1 ∧ S.2 89 q = v.2.1 ∧ S.2 90 q = v.2.2.1 ∧ S.2 91 q = v.2.2.2 := by
  obtain ⟨hL, hD, hE, hK, hV, hM, hP, hX⟩ := hI
  have n40 := hL.2.2.1.1
  obtain ⟨n1, n2⟩ := nl_le hD hK n40 hP
  obtain ⟨k1, k2, k3, k4, _⟩ := hK
  obtain ⟨cc, c1, c2, c3, c4⟩ := hn
  obtain ⟨c5, c6⟩ := c3 v hv
  subst c6
  refine ⟨⟨cc, c5, by omega, by omega, by omega, k3, eq, c2, ov, k1, k2, k4⟩, ?_, ?_, ?_, rfl, rfl, rfl, rfl⟩
  · unfold y_held; exact v_h
  · unfold y_ahd; exact v_hA
  · unfold y_blk
    rw [v_agH, v_agQ y_seat_le]
    rfl
theorem fpN_st {f : Nat} (h : f ∉ fp_st) : f ∉ fp_N ∧ f ∉ fp_L ∧ f ∉ fp_W ∧ f ≠ 71 ∧ f ≠ 47 := by
  unfold fp_st at h
  simp only [List.mem_append, not_or] at h
  exact ⟨h.1.1.1, h.1.1.2, h.1.2, nmem h.2 (by decide), nmem h.2 (by decide)⟩
theorem ygr_A {t n f : Nat} {o w k a : Int32} (h : f ∉ fp_L) : (y_gr t o w k a n S).2 f = S.2 f := yg_A (nmem h (by decide)) (nmem h (by decide)) (nmem h (by decide)) (nmem h (by decide)) (nmem h (by decide)) (nmem h (by decide)) (nmem h (by decide))
theorem lA_v (hP : I_po c T l nr na cur nw S) : S.1 66 + 1 = nI ((S.1 66).toNatClampNeg + 1) := by
  rw [← i_a1, ← hP.2.2.2.2.2.2]
theorem wgt1 (h : A 47 t = 1) (e : A 71 t = nI q) (hq : q ≤ 100) : wgt A t t = 12 - q := by
  unfold wgt
  rw [if_neg (by rw [h]; decide), if_pos rfl, e, i_cl (by omega)]
theorem wgt2 (h : A 47 t = 2) (e : A 71 t = nI q) (hq : q ≤ 100) : wgt A cur t = 11 - q := by
  unfold wgt
  rw [if_pos h, e, i_cl (by omega)]
theorem stg_A {k f : Nat} (h : f ≠ 71) : (y_stg t k S).2 f = S.2 f := up_n h
theorem stg_s {k : Nat} : (y_stg t k S).2 71 = va_up (S.2 71) t (nI (k + 1)) := by unfold y_stg; dsimp only; rw [up_s]
theorem lA_F {f : Nat} (h : f ≠ 66) : (y_lA S).1 f = S.1 f := up_n h
theorem lA_s : (y_lA S).1 66 = S.1 66 + 1 := by unfold y_lA; dsimp only; rw [up_s]
theorem gr_F {f n : Nat} {o w k a : Int32} (h : f ≠ 72) : (y_gr t o w k a n S).1 f = S.1 f := up_n h
theorem gr_s {n : Nat} {o w k a : Int32} : (y_gr t o w k a n S).1 72 = nI (n + 1) := by unfold y_gr; dsimp only; rw [up_s]
/-- a step: held already, or granted -/
theorem gst_ok (hI : I_all n b l nl nw nr na ne ch t c T S) (hak : askOk n S.2 t) (h1 : 1 ≤ t) (h2 : t ≤ b) (st1 : S.2 47 t = 1) (eq : S.2 71 t = nI q) (hn : nds t q S) (hv : needAt S.2 t q = some v) (ho : o < n) (ov : v.1 = nI o)
    (hh : y_held t q o nl S = true ∨ (y_held t q o nl S = false ∧ y_blk t q o nl nw S = false)) : ∃ S1 nl' ex, r_gst t S S1 ∧ stp t (q + 1) 1 S S1 ∧ nds t (q + 1) S1 ∧ S1.1 66 = S.1 66 + 1 ∧ I_all n b l nl' nw nr na ne ch t c T S1 ∧ v_L nl' S1.2 = v_L nl S.2 ++ ex ∧ v_W nw S1.2 = v_W nw S.2 ∧
      ((y_held t q o nl S = true ∧ ex = []) ∨ (y_held t q o nl S = false ∧ ex = [(nI t, v.1, v.2.1, v.2.2.1, v.2.2.2, S.2 51 t, 1)])) := by
  have hI0 := hI
  obtain ⟨⟨cc, hw⟩, w1, w2, w3, w4, w5, w6, w7⟩ := now_ok hI eq hn hv ho ov
  obtain ⟨hL, hD, hE, hK, hV, hM, hP, hX⟩ := hI
  have n40 := hL.2.2.1.1
  obtain ⟨n1, n2⟩ := nl_le hD hK n40 hP
  obtain ⟨o', v1, v2, v3, v4, v5, v6, v7⟩ := need_v hL.2.2.1 hak hv
  have oo : o' = o := by rw [ov, i_eq (by omega) (by omega)] at v2; exact v2.symm
  subst oo
  have dq : dp S.2 (o_1 S.2 t) ≤ 5 := by
    obtain ⟨z1, z2⟩ := o1_L1 hak n40
    rw [z1]
    exact (dp_ok hL.2.2.1 z2).2
  obtain ⟨k1, k2, k3, k4, k5, k6, k7, k8, _⟩ := hK
  have lav := lA_v hP
  have noT : ∀ x ∈ v_W nw S.2, x.1 ≠ nI t := fun x hx z => by
    obtain ⟨u, o, a1, a2, a3, a4, _⟩ := k6 x hx
    rw [a1, i_eq (by have := hD.1; omega) (by have := hD.1; omega)] at z
    subst z
    rw [st1] at a4
    exact absurd a4 (by decide)
  have st1' : va_up (S.2 47) t 1 = S.2 47 := funext fun u => by
    by_cases z : u = t
    · subst z; rw [up_s]; exact st1.symm
    · rw [up_n z]
  -- from the state with the stage raised
  have go : ∀ (S0 : m_S) (nl' : Nat) (ex : List v_LT), (∀ f, f ∉ [66, 72] → S0.1 f = S.1 f) → (∀ f, f ∉ fp_L → f ≠ 71 → S0.2 f = S.2 f) → S0.2 71 = va_up (S.2 71) t (nI (q + 1)) → S0.1 66 = S.1 66 + 1 → S0.1 72 = nI nl' → v_L nl' S0.2 = v_L nl S.2 ++ ex → (ex = [] ∨ ex = [(nI t, v.1, v.2.1, v.2.2.1, v.2.2.2, S.2 51 t, 1)] ∧ y_held t q o' nl S = false ∧ y_blk t q o' nl nw S = false) →
      ∃ S1, r_needs t S0 S1 ∧ stp t (q + 1) 1 S S1 ∧ nds t (q + 1) S1 ∧ S1.1 66 = S.1 66 + 1 ∧ I_all n b l nl' nw nr na ne ch t c T S1 ∧ v_L nl' S1.2 = v_L nl S.2 ++ ex ∧ v_W nw S1.2 = v_W nw S.2 := fun S0 nl' ex f1 f2 f3 f4 f5 f6 f7 => by
    obtain ⟨S1, g1, g2, g3, g4⟩ := nds_ok (S0 := S0) (q := q + 1) hL.2.2.1 hak (fun f hf => f2 f (fpN_st hf).2.1 (fpN_st hf).2.2.2.1) (by rw [f3, up_s]) (by omega)
    have hs : stp t (q + 1) 1 S S1 := by
      refine ⟨fun f hf => ?_, fun f hf => ?_, ?_, ?_⟩
      · rw [g4 f (nmem hf (by decide))]
        refine f1 f (fun z => hf ?_)
        simp only [List.mem_cons, List.not_mem_nil, or_false] at z
        rcases z with z | z <;> rw [z] <;> decide
      · rw [g3 f (fpN_st hf).1]
        exact f2 f (fpN_st hf).2.1 (fpN_st hf).2.2.2.1
      · rw [g3 _ (by decide), f2 _ (by decide) (by decide), st1']
      · rw [g3 _ (by decide), f3]
    have vl1 : v_L nl' S1.2 = v_L nl S.2 ++ ex := by
      rw [v_L_cg (fun f hf => g3 f (by revert f; decide)), f6]
    have vw1 : v_W nw S1.2 = v_W nw S.2 := v_W_cg (fun f hf => by rw [g3 f (by revert f; decide)]; exact f2 f (by revert f; decide) (by revert f; decide))
    have e1 : S1.1 66 = S.1 66 + 1 := by rw [g4 _ (by decide)]; exact f4
    refine ⟨S1, g1, hs, g2, e1, ?_, vl1, vw1⟩
    have sgS : S1.2 71 t = nI (q + 1) := by rw [hs.2.2.2, up_s]
    have stS : S1.2 47 t = 1 := by rw [hs.2.2.1, up_s]
    refine I_stp (v := v) (nW := (0, 0, 0, 0, 0, 0)) hI0 hs h1 h2 (Or.inl ⟨rfl, st1⟩) (Or.inl ⟨rfl, rfl⟩) eq (Or.inr ⟨rfl, v6⟩) (by omega) (e1.trans lav) ?_ (by rw [g4 _ (by decide)]; exact f5) vl1 ?_ (by rw [g4 _ (by decide), f1 _ (by decide)]; exact k2) k3 ?_ (fun x => ?_) (by rw [vw1]; exact k7) (fun z => absurd z (by decide))
    · rw [wgt1 stS sgS (by omega), wgt1 st1 eq (by omega)]
      omega
    · rcases f7 with f7 | ⟨f7, f8, f9⟩
      · exact Or.inl f7
      · rw [w1, List.any_eq_false] at f8
        rw [w3, Bool.or_eq_false_iff, List.any_eq_false] at f9
        refine Or.inr ⟨f7, rfl, ⟨o', ho, ov⟩, v3, v4, fun z => ?_, rfl, fun x hx hxo hxt => ?_, fun x hx z => ?_, fun G hG z => ?_⟩
        · rcases v5 z with y | y
          · rw [y.2]; exact Nat.le_refl _
          · exact Nat.le_of_lt y.2
        · have := f9.1 x (List.mem_filter.mpr ⟨hx, by simp only [beq_iff_eq]; rw [hxo, ov]⟩)
          unfold v_ag at this
          rw [bne_iff_ne.mpr hxt, Bool.true_and, Bool.not_eq_true] at this
          rw [ov, i_cl (by omega)]
          exact this
        · obtain ⟨z1, z2, z3, z4⟩ := z
          dsimp only at z1 z2 z3 z4
          refine f8 x (List.mem_filter.mpr ⟨hx, by simp only [beq_iff_eq]; rw [z2, ov]⟩) ?_
          unfold v_hf
          by_cases c4 : v.2.1 = 4
          · obtain ⟨z5, z6⟩ := z4 (z3.trans c4)
            rw [z1, z3, z5, z6]
            simp
          · rw [z1, z3, bne_iff_ne.mpr c4]
            simp
        · rcases v5 z with y | y
          · rw [y.1]; exact hG.2.1
          · rw [y.1]; exact hG.2.2
    · unfold w_ah
      rw [g3 _ (by decide), f2 _ (by decide) (by decide)]
      exact k4
    · rw [vw1]
      exact ⟨fun z => Or.inl ⟨z, noT x z⟩, fun z => z.elim (fun y => y.1) (fun y => absurd y.1 (by decide))⟩
  rcases hh with hh | hh
  · obtain ⟨S1, g1, g2, g3, g4, g5, g6, g7⟩ := go (y_stg t q (y_lA S)) nl [] (fun f hf => lA_F (nmem hf (by decide))) (fun f _ h2 => stg_A h2) stg_s lA_s ((lA_F (by decide)).trans k1) (by rw [List.append_nil]; exact v_L_cg (fun f hf => stg_A (by revert f; decide))) (Or.inl rfl)
    exact ⟨S1, nl, [], ⟨q, cc, o', nl, nw, hw, Or.inl ⟨hh, g1⟩⟩, g2, g3, g4, g5, g6, g7, Or.inl ⟨hh, rfl⟩⟩
  · have vg : v_L (nl + 1) (y_stg t q (y_gr t (nI o') (S.2 89 q) (S.2 90 q) (S.2 91 q) nl (y_lA S))).2 = v_L nl S.2 ++ [(nI t, v.1, v.2.1, v.2.2.1, v.2.2.2, S.2 51 t, 1)] := by
      refine (v_L_cg (A := (y_gr t (nI o') (S.2 89 q) (S.2 90 q) (S.2 91 q) nl (y_lA S)).2) (fun f hf => stg_A (by revert f; decide))).trans ?_
      rw [v_gr, w5, w6, w7, ov]
      rfl
    obtain ⟨S1, g1, g2, g3, g4, g5, g6, g7⟩ := go (y_stg t q (y_gr t (nI o') (S.2 89 q) (S.2 90 q) (S.2 91 q) nl (y_lA S))) (nl + 1) [(nI t, v.1, v.2.1, v.2.2.1, v.2.2.2, S.2 51 t, 1)]
      (fun f hf => by unfold y_stg; dsimp only; rw [gr_F (nmem hf (by decide)), lA_F (nmem hf (by decide))]) (fun f h1 h2 => by rw [stg_A h2, ygr_A h1]; rfl) (by rw [stg_s, ygr_A (by decide)]; rfl) (by unfold y_stg; dsimp only; rw [gr_F (by decide), lA_s]) (by unfold y_stg; dsimp only; rw [gr_s]) vg (Or.inr ⟨rfl, hh.1, hh.2⟩)
    exact ⟨S1, nl + 1, _, ⟨q, cc, o', nl, nw, hw, Or.inr ⟨hh.1, hh.2, by omega, g1⟩⟩, g2, g3, g4, g5, g6, g7, Or.inr ⟨hh.1, rfl⟩⟩
/-- a step: to wait -/
theorem gwt_ok (hI : I_all n b l nl nw nr na ne ch t c T S) (hak : askOk n S.2 t) (h1 : 1 ≤ t) (h2 : t ≤ b) (st1 : S.2 47 t = 1) (eq : S.2 71 t = nI q) (hn : nds t q S) (hv : needAt S.2 t q = some v) (ho : o < n) (ov : v.1 = nI o)
    (hh : y_held t q o nl S = false) (hb : y_blk t q o nl nw S = true) (he : y_ahd t o nl S = e) : ∃ S1, (∀ S', r_rings t 12 S1 S' → r_gwt t S S') ∧ stp t q 2 S S1 ∧ S1.1 66 = S.1 66 + 1 ∧ I_all n b l nl (nw + 1) nr na ne ch 0 c T S1 ∧ v_L nl S1.2 = v_L nl S.2 ∧
      v_W (nw + 1) S1.2 = (v_W nw S.2).take (y_seat (nI o) e nw S.2) ++ (nI t, v.1, v.2.1, v.2.2.1, v.2.2.2, b_v e) :: (v_W nw S.2).drop (y_seat (nI o) e nw S.2) := by
  have hI0 := hI
  have n12 := nw_lt hI h1 h2 st1
  obtain ⟨⟨cc, hw⟩, w1, w2, w3, w4, w5, w6, w7⟩ := now_ok hI eq hn hv ho ov
  obtain ⟨hL, hD, hE, hK, hV, hM, hP, hX⟩ := hI
  have n40 := hL.2.2.1.1
  obtain ⟨o', v1, v2, v3, v4, v5, v6, v7⟩ := need_v hL.2.2.1 hak hv
  have oo : o' = o := by rw [ov, i_eq (by omega) (by omega)] at v2; exact v2.symm
  subst oo
  have dq : dp S.2 (o_1 S.2 t) ≤ 5 := by
    obtain ⟨z1, z2⟩ := o1_L1 hak n40
    rw [z1]
    exact (dp_ok hL.2.2.1 z2).2
  obtain ⟨k1, k2, k3, k4, k5, k6, k7, k8, _⟩ := hK
  have b400 := hD.1
  have lav := lA_v hP
  have hse : y_seat (nI o') e nw S.2 ≤ nw := y_seat_le
  have noT : ∀ x ∈ v_W nw S.2, x.1 ≠ nI t := fun x hx z => by
    obtain ⟨u, o, a1, a2, a3, a4, _⟩ := k6 x hx
    rw [a1, i_eq (by omega) (by omega)] at z
    subst z
    rw [st1] at a4
    exact absurd a4 (by decide)
  have wA : ∀ f, f ∉ fp_W → f ≠ 47 → (y_wH t q (y_seat (nI o') e nw S.2) e nw (y_lA S)).2 f = S.2 f := fun f h h2 => by
    unfold y_wH
    dsimp only
    rw [up_n h2, up_n (nmem h (by decide)), up_n (nmem h (by decide)), up_n (nmem h (by decide)), up_n (nmem h (by decide)), up_n (nmem h (by decide)), up_n (nmem h (by decide)), yu_A (nmem h (by decide)) (nmem h (by decide)) (nmem h (by decide)) (nmem h (by decide)) (nmem h (by decide)) (nmem h (by decide))]
    rfl
  have wS : (y_wH t q (y_seat (nI o') e nw S.2) e nw (y_lA S)).2 47 = va_up (S.2 47) t 2 := by unfold y_wH; dsimp only; rw [up_s]; rfl
  have wF : ∀ f, f ≠ 80 → (y_wH t q (y_seat (nI o') e nw S.2) e nw (y_lA S)).1 f = (y_lA S).1 f := fun f h => up_n h
  have wW : (y_wH t q (y_seat (nI o') e nw S.2) e nw (y_lA S)).1 80 = nI (nw + 1) := by unfold y_wH; dsimp only; rw [up_s]
  have wV : v_W (nw + 1) (y_wH t q (y_seat (nI o') e nw S.2) e nw (y_lA S)).2 = (v_W nw S.2).take (y_seat (nI o') e nw S.2) ++ (nI t, v.1, v.2.1, v.2.2.1, v.2.2.2, b_v e) :: (v_W nw S.2).drop (y_seat (nI o') e nw S.2) := by
    rw [v_wH hse]
    show _ ++ (nI t, S.2 88 q, S.2 89 q, S.2 90 q, S.2 91 q, b_v e) :: _ = _
    rw [w4, w5, w6, w7]
    rfl
  have wah : w_ah 13 (y_wH t q (y_seat (nI o') e nw S.2) e nw (y_lA S)).2 := fun k hk => by
    have : (y_wH t q (y_seat (nI o') e nw S.2) e nw (y_lA S)).2 86 = va_up ((y_wu (y_seat (nI o') e nw S.2) (nw - y_seat (nI o') e nw S.2) S.2) 86) (y_seat (nI o') e nw S.2) (b_v e) := by
      unfold y_wH
      dsimp only
      rw [up_n (by decide), up_s]
      rfl
    rw [this]
    by_cases c : k = y_seat (nI o') e nw S.2
    · rw [c, up_s]; cases e <;> decide
    · rw [up_n c]; exact ah_wu _ _ k4 (by omega) k hk
  have hrg : ∀ S', r_rings t 12 (y_wH t q (y_seat (nI o') e nw S.2) e nw (y_lA S)) S' → r_gwt t S S' := fun S' h => ⟨q, cc, o', nl, nw, hw, hh, hb, by rw [he]; exact h⟩
  generalize y_wH t q (y_seat (nI o') e nw S.2) e nw (y_lA S) = S1 at *
  have hs : stp t q 2 S S1 := by
    refine ⟨fun f hf => ?_, fun f hf => wA f (fpN_st hf).2.2.1 (fpN_st hf).2.2.2.2, wS, ?_⟩
    · rw [wF f (nmem hf (by decide)), lA_F (nmem hf (by decide))]
    · rw [wA _ (by decide) (by decide)]
      funext u
      by_cases z : u = t
      · subst z; rw [up_s]; exact eq
      · rw [up_n z]
  have e1 : S1.1 66 = S.1 66 + 1 := by rw [wF _ (by decide), lA_s]
  have vl1 : v_L nl S1.2 = v_L nl S.2 := v_L_cg (fun f hf => wA f (by revert f; decide) (by revert f; decide))
  refine ⟨S1, hrg, hs, e1, ?_, vl1, wV⟩
  have sgS : S1.2 71 t = nI q := by rw [hs.2.2.2, up_s]
  have stS : S1.2 47 t = 2 := by rw [hs.2.2.1, up_s]
  refine I_stp (v := v) (ex := []) (nW := (nI t, v.1, v.2.1, v.2.2.1, v.2.2.2, b_v e)) hI0 hs h1 h2 (Or.inl ⟨rfl, st1⟩) (Or.inr ⟨rfl, rfl⟩) eq (Or.inl rfl) (by omega) (e1.trans lav) ?_ (by rw [wF _ (by decide), lA_F (by decide)]; exact k1) (by rw [List.append_nil]; exact vl1) (Or.inl rfl) wW n12 wah (fun x => ?_) ?_ (fun _ => ⟨rfl, rfl, ?_, fun G hG z => ?_, fun x hx z => ?_⟩)
  · rw [wgt2 stS sgS (by omega), wgt1 st1 eq (by omega)]
    omega
  · rw [wV, List.mem_append, List.mem_cons]
    constructor
    · rintro (z | z | z)
      · have := List.mem_of_mem_take z; exact Or.inl ⟨this, noT x this⟩
      · exact Or.inr ⟨rfl, z⟩
      · have := List.mem_of_mem_drop z; exact Or.inl ⟨this, noT x this⟩
    · rintro (⟨z, _⟩ | ⟨_, z⟩)
      · rw [← List.take_append_drop (y_seat (nI o') e nw S.2) (v_W nw S.2)] at z
        rcases List.mem_append.mp z with z | z
        · exact Or.inl z
        · exact Or.inr (Or.inr z)
      · exact Or.inr (Or.inl z)
  · rw [wV, List.map_append, List.map_cons]
    have hp : ((v_W nw S.2).take (y_seat (nI o') e nw S.2)).map (fun x => x.1) ++ ((v_W nw S.2).drop (y_seat (nI o') e nw S.2)).map (fun x => x.1) = (v_W nw S.2).map (fun x => x.1) := by rw [← List.map_append, List.take_append_drop]
    rw [← hp] at k7
    rw [List.nodup_append] at k7 ⊢
    obtain ⟨x1, x2, x3⟩ := k7
    have nT : ∀ y ∈ ((v_W nw S.2).take (y_seat (nI o') e nw S.2)).map (fun x => x.1), y ≠ nI t := fun y hy => by
      obtain ⟨x, xm, xe⟩ := List.mem_map.mp hy
      rw [← xe]; exact noT x (List.mem_of_mem_take xm)
    have nD : ∀ y ∈ ((v_W nw S.2).drop (y_seat (nI o') e nw S.2)).map (fun x => x.1), y ≠ nI t := fun y hy => by
      obtain ⟨x, xm, xe⟩ := List.mem_map.mp hy
      rw [← xe]; exact noT x (List.mem_of_mem_drop xm)
    refine ⟨x1, ?_, fun y hy z hz => ?_⟩
    · rw [List.nodup_cons]; exact ⟨fun z => nD _ z rfl, x2⟩
    · rcases List.mem_cons.mp hz with z2 | z2
      · rw [z2]; exact nT y hy
      · exact x3 y hy z z2
  · have hA := hs.2.1
    refine ⟨t, o', rfl, h1, h2, stS, ov, ho, v3, v4, ?_, fun k hk hk2 hst => ?_, q, sgS, ?_, fun z => ?_⟩
    · show b_v e = 0 ∨ b_v e = 1
      cases e
      · exact Or.inl rfl
      · exact Or.inr rfl
    · unfold dp at hst
      rw [hA 68 (by decide)] at hk
      rw [sgS, hA 7 (by decide), hA 67 (by decide)] at hst
      rw [hA 67 (by decide), hA 69 (by decide)]
      have hdq : q = dp S.2 (S.2 67 t).toNatClampNeg := by
        have hob := hL.2.2.1
        obtain ⟨oo, kk, y1, y2, y3, _⟩ := hak
        have d5 := (dp_ok hob y2).2
        rw [y1, i_cl (by omega)] at hst ⊢
        unfold dp at d5 ⊢
        rw [i_eq (by omega) (by omega)] at hst
        exact hst
      exact v7 k hk hk2 hdq
    · have v8 : ∀ k, S.2 68 t = nI k → k < 18 → q ≤ dp S.2 (S.2 67 t).toNatClampNeg := fun k hk hk2 => by
        have ck : (S.2 68 t).toNatClampNeg = k := by rw [hk, i_cl (by omega)]
        have e1 : L_1 S.2 t = ((S.2 67 t).toNatClampNeg, k) := by unfold L_1; rw [ck, if_neg (by omega)]
        have e2 : L_2 S.2 t = none := by unfold L_2; rw [ck, if_neg (by omega), if_neg (fun z => by have := z.1; omega)]
        unfold needAt at hv
        rw [e1, e2] at hv
        by_cases cq : q ≤ dp S.2 (S.2 67 t).toNatClampNeg
        · exact cq
        · rw [if_neg cq] at hv; cases hv
      unfold dp at v8
      unfold dp o_1 at v6 ⊢
      rw [hA 7 (by decide), hA 68 (by decide), hA 67 (by decide), hA 70 (by decide)]
      exact ⟨v6, v8⟩
    · have : dp S1.2 (o_1 S1.2 t) = dp S.2 (o_1 S.2 t) := by
        unfold dp o_1
        rw [hA 7 (by decide), hA 68 (by decide), hA 67 (by decide), hA 70 (by decide)]
      rw [this]
      rcases v5 z with y | y
      · rw [y.2]; exact Nat.le_refl _
      · exact Nat.le_of_lt y.2
  · rcases v5 z with y | y
    · dsimp only; rw [y.1]; exact hG.1
    · dsimp only; rw [y.1]; exact hG.2
  · rw [w1, List.any_eq_false] at hh
    obtain ⟨z1, z2, z3, z4⟩ := z
    dsimp only at z1 z2 z3 z4
    refine hh x (List.mem_filter.mpr ⟨hx, by simp only [beq_iff_eq]; rw [z2, ov]⟩) ?_
    unfold v_hf
    by_cases c4 : v.2.1 = 4
    · obtain ⟨z5, z6⟩ := z4 (z3.trans c4)
      rw [z1, z3, z5, z6]
      simp
    · rw [z1, z3, bne_iff_ne.mpr c4]
      simp
end SI
