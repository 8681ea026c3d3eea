/-! a wait granted: its deal goes on, the reference's side -/
section SL
variable {Z : k_Z} {P : k_P} {U : k_U} {r : Nat × Nat} {S S0 S1 S' : m_S} {A : m_A} {N own n b l nl nw nr na ne t q o k c T : Nat} {ch : Nat → List Nat}
theorem ydw_fA {f i : Nat} (h : f ∉ fp_W) : (y_dropW i n S).2 f = S.2 f := by
  unfold y_dropW
  exact ydwR_A h _ _ _
theorem ydw_fF {f i : Nat} (h : f ≠ 80) : (y_dropW i n S).1 f = S.1 f := by
  unfold y_dropW
  exact up_n h
theorem ydw_w {i : Nat} : (y_dropW i n S).1 80 = nI (n - 1) := by
  unfold y_dropW
  dsimp only
  rw [up_s]
theorem er_mem {α : Type} {f : α → Int32} {L : List α} {k : Nat} {x : α} (nd : (L.map f).Nodup) (hx : L[k]? = some x) (y : α) : y ∈ L.eraseIdx k ↔ y ∈ L ∧ f y ≠ f x := by
  have nd' : L.Pairwise (fun a b => f a ≠ f b) := by
    unfold List.Nodup at nd
    rw [List.pairwise_map] at nd
    exact nd
  constructor
  · intro h
    refine ⟨List.mem_of_mem_eraseIdx h, fun e => ?_⟩
    rw [List.mem_eraseIdx_iff_getElem?] at h
    obtain ⟨j, hj, e2⟩ := h
    obtain ⟨k1, k2⟩ := List.getElem?_eq_some_iff.mp hx
    obtain ⟨j1, j2⟩ := List.getElem?_eq_some_iff.mp e2
    rw [List.pairwise_iff_getElem] at nd'
    rcases Nat.lt_or_gt_of_ne hj with c | c
    · exact nd' j k j1 k1 c (by rw [j2, k2]; exact e)
    · exact nd' k j k1 j1 c (by rw [j2, k2]; exact e.symm)
  · rintro ⟨h1, h2⟩
    rw [List.mem_eraseIdx_iff_getElem?]
    obtain ⟨j, hj, e⟩ := List.getElem_of_mem h1
    refine ⟨j, fun e2 => ?_, by rw [List.getElem?_eq_getElem hj, e]⟩
    subst e2
    rw [List.getElem?_eq_getElem hj, e] at hx
    cases hx
    exact h2 rfl
theorem wake_ok (hI : I_all n b l nl nw nr na ne ch 0 c T S) (hK : K_all N own n b l nl nw nr ne ch 0 Z P U r S) (hg : y_gt S.2 nl 0 nw none = some k) (hk : k < nw) (ck : y_can S.2 nl k = true) (ho : o < n) (eo : S.2 82 k = nI o) :
    ∃ t q S1, 1 ≤ t ∧ t ≤ b ∧ S.2 81 k = nI t ∧ S.2 47 t = 2 ∧ S.2 71 t = nI q ∧ q + 1 ≤ 12 ∧ w_set nl nw S ∧ (∀ S', r_gol t 24 S1 S' → r_set1 nl nw k t S S') ∧ stp t (q + 1) 1 S S1 ∧ nds t (q + 1) S1 ∧ S1.1 66 = S.1 66 ∧ I_all n b l (nl + 1) (nw - 1) nr na ne ch t c T S1 ∧
      v_L (nl + 1) S1.2 = v_L nl S.2 ++ [(nI t, S.2 82 k, S.2 83 k, S.2 84 k, S.2 85 k, S.2 51 t, 1)] ∧ v_W (nw - 1) S1.2 = (v_W nw S.2).eraseIdx k := by
  have hI0 := hI
  have hK0 := hK
  obtain ⟨hL, hD, hE, hLk, hV, hM, hP, hX⟩ := hI
  have n40 := hL.2.2.1.1
  have b400 := hD.1
  obtain ⟨n1, n2⟩ := nl_le hD hLk n40 hP
  obtain ⟨k1, k2, k3, k4, k5, k6, k7, k8, k9, k10, k11, ⟨kq, G, k13⟩, k12⟩ := hLk
  have hx : (v_W nw S.2)[k]? = some (v_w S.2 k) := by rw [v_Wg, if_pos hk]
  have hm : v_w S.2 k ∈ v_W nw S.2 := List.mem_of_getElem? hx
  obtain ⟨t, o', a1, a2, a3, a4, a5, a6, a7, a8, a9, b1, q, b2, ⟨b3, _⟩, b4⟩ := k6 _ hm
  have a1 : S.2 81 k = nI t := a1
  have hak := ask_ok hI0 hK0 a2 a3 (Or.inl a4)
  have dq : dp S.2 (o_1 S.2 t) ≤ 5 := by
    obtain ⟨z1, z2⟩ := o1_L1 hak n40
    rw [z1]
    exact (dp_ok hL.2.2.1 z2).2
  have hset : w_set nl nw S := ⟨by omega, by omega, k1, k2, fun j hj => by
    have hmj : v_w S.2 j ∈ v_W nw S.2 := List.mem_of_getElem? (by rw [v_Wg, if_pos hj])
    obtain ⟨_, oj, _, _, _, _, c5, c6, _⟩ := k6 _ hmj
    exact ⟨oj, by omega, c5⟩⟩
  -- the state as it goes on
  have fA : ∀ f, f ∉ fp_W → f ∉ fp_L → f ≠ 71 → f ≠ 47 → (va_up (y_stg t q (y_dropW k nw (y_gr t (S.2 82 k) (S.2 83 k) (S.2 84 k) (S.2 85 k) nl S))).2 47 (va_up ((y_stg t q (y_dropW k nw (y_gr t (S.2 82 k) (S.2 83 k) (S.2 84 k) (S.2 85 k) nl S))).2 47) t 1)) f = S.2 f := fun f h1 h2 h3 h4 => by
    rw [up_n h4, stg_A h3, ydw_fA h1, ygr_A h2]
  have fS : (va_up (y_stg t q (y_dropW k nw (y_gr t (S.2 82 k) (S.2 83 k) (S.2 84 k) (S.2 85 k) nl S))).2 47 (va_up ((y_stg t q (y_dropW k nw (y_gr t (S.2 82 k) (S.2 83 k) (S.2 84 k) (S.2 85 k) nl S))).2 47) t 1)) 47 = va_up (S.2 47) t 1 := by
    rw [up_s, stg_A (by decide), ydw_fA (by decide), ygr_A (by decide)]
  have fG : (va_up (y_stg t q (y_dropW k nw (y_gr t (S.2 82 k) (S.2 83 k) (S.2 84 k) (S.2 85 k) nl S))).2 47 (va_up ((y_stg t q (y_dropW k nw (y_gr t (S.2 82 k) (S.2 83 k) (S.2 84 k) (S.2 85 k) nl S))).2 47) t 1)) 71 = va_up (S.2 71) t (nI (q + 1)) := by
    rw [up_n (by decide), stg_s, ydw_fA (by decide), ygr_A (by decide)]
  have fF : ∀ f, f ≠ 80 → f ≠ 72 → (y_stg t q (y_dropW k nw (y_gr t (S.2 82 k) (S.2 83 k) (S.2 84 k) (S.2 85 k) nl S))).1 f = S.1 f := fun f h1 h2 => by
    show (y_dropW k nw (y_gr t (S.2 82 k) (S.2 83 k) (S.2 84 k) (S.2 85 k) nl S)).1 f = S.1 f
    rw [ydw_fF h1, gr_F h2]
  have fFl : (y_stg t q (y_dropW k nw (y_gr t (S.2 82 k) (S.2 83 k) (S.2 84 k) (S.2 85 k) nl S))).1 72 = nI (nl + 1) := by
    show (y_dropW k nw (y_gr t (S.2 82 k) (S.2 83 k) (S.2 84 k) (S.2 85 k) nl S)).1 72 = nI (nl + 1)
    rw [ydw_fF (by decide), gr_s]
  have fFw : (y_stg t q (y_dropW k nw (y_gr t (S.2 82 k) (S.2 83 k) (S.2 84 k) (S.2 85 k) nl S))).1 80 = nI (nw - 1) := by
    show (y_dropW k nw (y_gr t (S.2 82 k) (S.2 83 k) (S.2 84 k) (S.2 85 k) nl S)).1 80 = nI (nw - 1)
    rw [ydw_w]
  have fL : v_L (nl + 1) (va_up (y_stg t q (y_dropW k nw (y_gr t (S.2 82 k) (S.2 83 k) (S.2 84 k) (S.2 85 k) nl S))).2 47 (va_up ((y_stg t q (y_dropW k nw (y_gr t (S.2 82 k) (S.2 83 k) (S.2 84 k) (S.2 85 k) nl S))).2 47) t 1)) = v_L nl S.2 ++ [(nI t, S.2 82 k, S.2 83 k, S.2 84 k, S.2 85 k, S.2 51 t, 1)] := by
    refine Eq.trans (v_L_cg (A := (y_gr t (S.2 82 k) (S.2 83 k) (S.2 84 k) (S.2 85 k) nl S).2) (fun f hf => ?_)) v_gr
    rw [up_n (by revert f; decide), stg_A (by revert f; decide), ydw_fA (by revert f; decide)]
  have fW : v_W (nw - 1) (va_up (y_stg t q (y_dropW k nw (y_gr t (S.2 82 k) (S.2 83 k) (S.2 84 k) (S.2 85 k) nl S))).2 47 (va_up ((y_stg t q (y_dropW k nw (y_gr t (S.2 82 k) (S.2 83 k) (S.2 84 k) (S.2 85 k) nl S))).2 47) t 1)) = (v_W nw S.2).eraseIdx k := by
    refine Eq.trans (v_W_cg (A := (y_dropW k nw (y_gr t (S.2 82 k) (S.2 83 k) (S.2 84 k) (S.2 85 k) nl S)).2) (fun f hf => ?_)) ?_
    · rw [up_n (by revert f; decide), stg_A (by revert f; decide)]
    · rw [v_dropW hk, v_W_cg (A := S.2) (fun f hf => ygr_A (by revert f; decide))]
  have fah : w_ah 13 (va_up (y_stg t q (y_dropW k nw (y_gr t (S.2 82 k) (S.2 83 k) (S.2 84 k) (S.2 85 k) nl S))).2 47 (va_up ((y_stg t q (y_dropW k nw (y_gr t (S.2 82 k) (S.2 83 k) (S.2 84 k) (S.2 85 k) nl S))).2 47) t 1)) := by
    unfold w_ah
    rw [up_n (by decide), stg_A (by decide)]
    unfold y_dropW
    exact ah_dwR _ _ _ (by unfold w_ah; rw [ygr_A (by decide)]; exact k4) (by omega)
  have hset1 : ∀ S', r_goOn t (y_stg t q (y_dropW k nw (y_gr t (S.2 82 k) (S.2 83 k) (S.2 84 k) (S.2 85 k) nl S))) S' → r_set1 nl nw k t S S' := fun S' h => ⟨hg, hk, by omega, by omega, a1, k4, q, by omega, b2, h⟩
  generalize y_stg t q (y_dropW k nw (y_gr t (S.2 82 k) (S.2 83 k) (S.2 84 k) (S.2 85 k) nl S)) = S0 at *
  have hgo : ∀ S1 S', r_needs t (S0.1, va_up S0.2 47 (va_up (S0.2 47) t 1)) S1 → r_gol t 24 S1 S' → r_set1 nl nw k t S S' := fun S1 S' h1 h2 => hset1 S' ⟨S1, h1, h2⟩
  generalize va_up S0.2 47 (va_up (S0.2 47) t 1) = A0 at *
  obtain ⟨S1, g1, g2, g3, g4⟩ := nds_ok (S := S) (S0 := (S0.1, A0)) (q := q + 1) hL.2.2.1 hak (fun f hf => fA f (fpN_st hf).2.2.1 (fpN_st hf).2.1 (fpN_st hf).2.2.2.1 (fpN_st hf).2.2.2.2) (by dsimp only; rw [fG, up_s]) (by omega)
  dsimp only at g3 g4
  have hs : stp t (q + 1) 1 S S1 := by
    refine ⟨fun f hf => ?_, fun f hf => ?_, ?_, ?_⟩
    · rw [g4 f (nmem hf (by decide)), fF f (nmem hf (by decide)) (nmem hf (by decide))]
    · rw [g3 f (fpN_st hf).1]; exact fA f (fpN_st hf).2.2.1 (fpN_st hf).2.1 (fpN_st hf).2.2.2.1 (fpN_st hf).2.2.2.2
    · rw [g3 _ (by decide), fS]
    · rw [g3 _ (by decide), fG]
  have vl1 : v_L (nl + 1) S1.2 = v_L nl S.2 ++ [(nI t, S.2 82 k, S.2 83 k, S.2 84 k, S.2 85 k, S.2 51 t, 1)] := by
    rw [v_L_cg (A := A0) (fun f hf => g3 f (by revert f; decide)), fL]
  have vw1 : v_W (nw - 1) S1.2 = (v_W nw S.2).eraseIdx k := by
    rw [v_W_cg (A := A0) (fun f hf => g3 f (by revert f; decide)), fW]
  have e1 : S1.1 66 = S.1 66 := by rw [g4 _ (by decide), fF _ (by decide) (by decide)]
  refine ⟨t, q, S1, a2, a3, a1, a4, b2, by omega, hset, fun S' h => hgo S1 S' g1 h, hs, g2, e1, ?_, vl1, vw1⟩
  have sgS : S1.2 71 t = nI (q + 1) := by rw [hs.2.2.2, up_s]
  have stS : S1.2 47 t = 1 := by rw [hs.2.2.1, up_s]
  unfold y_can at ck
  have eow : (S.2 82 k).toNatClampNeg = o := by rw [eo, i_cl (by omega)]
  rw [eow, Bool.and_eq_true, Bool.not_eq_true', Bool.not_eq_true', v_agH, List.any_eq_false] at ck
  refine I_stp (v := (S.2 82 k, S.2 83 k, S.2 84 k, S.2 85 k)) (nW := (0, 0, 0, 0, 0, 0)) hI0 hs a2 a3 (Or.inr ⟨rfl, a4⟩) (Or.inl ⟨rfl, rfl⟩) b2 (Or.inr ⟨rfl, b3⟩) (by omega) (e1.trans hP.2.2.2.2.2.2) ?_ (by rw [g4 _ (by decide)]; exact fFl) vl1 (Or.inr ⟨rfl, rfl, ⟨o', a6, a5⟩, a7, a8, b4, rfl, fun x hx hxo hxt => ?_, fun x hx z => ?_, fun G hG z => hG.1 _ hm a1 z⟩) (by rw [g4 _ (by decide)]; exact fFw) (by omega) ?_ (fun x => ?_) ?_ (fun z => absurd z (by decide))
  · rw [wgt1 stS sgS (by omega), wgt2 a4 b2 (by omega)]
    omega
  · dsimp only at hxo ⊢
    have := ck.1 x (List.mem_filter.mpr ⟨hx, by simp only [beq_iff_eq]; rw [hxo, eo]⟩)
    unfold v_ag at this
    rw [a1, bne_iff_ne.mpr hxt, Bool.true_and, Bool.not_eq_true] at this
    rw [eow]
    exact this
  · refine kq _ hm x hx ?_
    obtain ⟨z1, z2, z3, z4⟩ := z
    exact ⟨z1.trans a1.symm, z2, z3, z4⟩
  · unfold w_ah
    rw [g3 _ (by decide)]
    exact fah
  · rw [vw1, er_mem k7 hx]
    show x ∈ v_W nw S.2 ∧ x.1 ≠ S.2 81 k ↔ _
    rw [a1]
    exact ⟨fun z => Or.inl z, fun z => z.elim id (fun y => absurd y.1 (by decide))⟩
  · rw [vw1]
    exact k7.sublist ((List.eraseIdx_sublist _ _).map _)
end SL
