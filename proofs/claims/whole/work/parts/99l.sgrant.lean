/-! grantFirst beside the reference: the whole step -/
section SN
variable {g : e_G} {Ψ : e_Q} {B : Nat → Option e_Cl} {Z : k_Z} {P : k_P} {U : k_U} {r : Nat × Nat} {S : m_S} {N own n b l nl nw nr na ne c T : Nat} {ch : Nat → List Nat}
theorem cu_wake {t q k : Nat} {S1 : m_S} (dq : dp S.2 (o_1 S.2 t) ≤ 5) (hI : I_all n b l nl nw nr na ne ch 0 c T S) (h2 : t ≤ b) (hk : k < nw) (et : S.2 81 k = nI t) (eq : S.2 71 t = nI q) (hq : q + 1 ≤ 12) (hs : stp t (q + 1) 1 S S1) (vL : v_L (nl + 1) S1.2 = v_L nl S.2 ++ [(nI t, S.2 82 k, S.2 83 k, S.2 84 k, S.2 85 k, S.2 51 t, 1)]) : I_cu t (nl + 1) S1.2 := by
  have hm : v_w S.2 k ∈ v_W nw S.2 := List.mem_of_getElem? (by rw [v_Wg, if_pos hk])
  obtain ⟨u, o', a1, a2, a3, a4, a5, a6, a7, a8, a9, b1, q0, b2, b3, b4⟩ := hI.2.2.2.1.2.2.2.2.2.1 _ hm
  have a1 : S.2 81 k = nI u := a1
  have b400 := hI.2.1.1
  have eu : u = t := by rw [a1, i_eq (by omega) (by omega)] at et; exact et
  subst eu
  have e0 : q = q0 := by have := b3.1; rw [eq, i_eq (by omega) (by omega)] at b2; exact b2
  refine cu_stp (fun j hj ek => Or.inl (by rw [e0]; exact b3.2 j ek hj)) eq (by omega) hs vL (fun j hj ek e => ?_)
  obtain ⟨c1, c2, c3, c4⟩ := b1 j ek hj (by rw [eq, e])
  exact ⟨_, List.mem_append_right _ (List.mem_singleton.mpr rfl), rfl, c1, c2, c3, c4⟩
theorem s_grant (hg : e_GK g) (hA : e_AK g) (hI : I_all n b l nl nw nr na ne ch 0 c T S) (hK : K_all N own n b l nl nw nr ne ch 0 Z P U r S)
    (q1 : y_gt S.2 nl 0 nw none = none → w_set nl nw S → Ψ (some .null) (K_H Z P U (B, r)))
    (q2 : ∀ k t q S1 Z' P' U' r', 1 ≤ t → t ≤ b → S.2 47 t = 2 → S.2 71 t = nI q → q + 1 ≤ 12 → w_set nl nw S → (∀ S', r_gol t 24 S1 S' → r_set1 nl nw k t S S') → stp t (q + 1) 1 S S1 → nds t (q + 1) S1 → S1.1 66 = S.1 66 → I_all n b l (nl + 1) (nw - 1) nr na ne ch t c T S1 → I_cu t (nl + 1) S1.2 → K_all N own n b l (nl + 1) (nw - 1) nr ne ch t Z' P' U' r' S1 → (∀ u, dl U' own u = dl U own u) → k_ro N 0 0 Z.2.1 r Z'.2.1 r' → Ψ (some (.ref (dl U own t))) (K_H Z' P' U' (B, r'))) :
    e_Sc g 143 [.ref own] (K_H Z P U (B, r)) Ψ := by
  have hI0 := hI
  have hK0 := hK
  obtain ⟨hL, hD, hE, hLk, hV, hM, hP, hX⟩ := hI
  obtain ⟨E, kLg, hs1, hs5, kDe, kEn, kAs, kLk, kVe, kMi⟩ := hK
  have n40 := hL.2.2.1.1
  have b400 := hD.1
  obtain ⟨n1, n2⟩ := nl_le hD hLk n40 hP
  have hset : w_set nl nw S := ⟨by omega, by have := hLk.2.2.1; omega, hLk.1, hLk.2.1, fun j hj => by
    have hmj : v_w S.2 j ∈ v_W nw S.2 := List.mem_of_getElem? (by rw [v_Wg, if_pos hj])
    obtain ⟨_, oj, _, _, _, _, c5, c6, _⟩ := hLk.2.2.2.2.2.1 _ hmj
    exact ⟨oj, by omega, c5⟩⟩
  have gl : k_gl P U own n := fun o ho => ⟨(lw_of hLk kLk ho).1, (lw_of hLk kLk ho).2, by rw [hl_len kLk ho]; have := n2 o; omega, by have := ql_len kLk ho; have := hLk.2.2.1; omega⟩
  refine h_grantH hg hA E.1 E.2.1 hs1.1 kLk.1 gl (fun hno => q1 (pick_none hI0 hK0 hno) hset) (fun o i x ho hx h0 h1 h2 C' r' hr => ?_)
  obtain ⟨k, p1, p2, p3, p4, p5, p6⟩ := pick_some hI0 hK0 ho hx h0 h1 h2
  obtain ⟨t, q, S1, g1, g2, g3, g4, g5, g6, g7, g8, g9, g10, g11, g12, g13, g14⟩ := wake_ok hI0 hK0 p1 p2 p6 ho p3
  have xm : x ∈ k_ql U own o := List.mem_of_getElem? hx
  have ex : Z.2.2 x = dl U own t := by
    obtain ⟨u, b1, b2, b3, b4, _⟩ := kLk.2.2.2.1 o ho x xm
    have e : P.1 40 (Z.2.2 x) = nI t := Eq.trans (congrArg (fun z : v_WT => z.1) p4) g3
    rw [b4, (kDe.2.2.1 u b1 b2).1, i_eq (by omega) (by omega)] at e
    rw [b4, e]
  rw [ex]
  have spt : Z.1 (k_sp U own o) = 10 := k_sp_t E.1 E.2.1 kLk.1 ho
  obtain ⟨l1, l2, _, _⟩ := E.1.spt spt
  have tx : Z.1 x = 4 := E.1.llo l2 xm
  have a14 := (E.1.hse E.2.1).2.2.2.2.1
  have o21 := sp_ne E kLk.1 ho ho
  have uL : ∀ a, (k_ww (k_wl (k_wl U (k_sp U own o + 2) ((k_ql U own o).eraseIdx i)) (k_sp U own o + 1) (k_hl U own o ++ [x])) (dl U own t) none).2.1 a = (k_wl (k_wl U (k_sp U own o + 2) ((k_ql U own o).eraseIdx i)) (k_sp U own o + 1) (k_hl U own o ++ [x])).2.1 a := fun a => rfl
  have w' : k_W N Z (k_ww (k_wl (k_wl U (k_sp U own o + 2) ((k_ql U own o).eraseIdx i)) (k_sp U own o + 1) (k_hl U own o ++ [x])) (dl U own t) none) := by
    refine k_W.ww ?_ (fun y hy => by cases hy)
    refine (E.1.wlS (fun y hy => List.mem_of_mem_eraseIdx hy)).wl (fun z => by rw [l1] at z; exact absurd z (by decide)) (fun _ y hy => ?_) (fun z => by rw [l1] at z; exact absurd z (by decide))
    rcases List.mem_append.mp hy with z | z
    · exact E.1.llo l1 z
    · rw [List.mem_singleton] at z; rw [z]; exact tx
  have dlU : ∀ u, dl (k_ww (k_wl (k_wl U (k_sp U own o + 2) ((k_ql U own o).eraseIdx i)) (k_sp U own o + 1) (k_hl U own o ++ [x])) (dl U own t) none) own u = dl U own u := fun u => by
    show ((k_wl (k_wl U (k_sp U own o + 2) ((k_ql U own o).eraseIdx i)) (k_sp U own o + 1) (k_hl U own o ++ [x])).2.1 (own + 14)).getD (u - 1) 0 = (U.2.1 (own + 14)).getD (u - 1) 0
    rw [k_ln (fun z => by rw [← z, a14] at l1; exact absurd l1 (by decide)), k_ln (fun z => by rw [← z, a14] at l2; exact absurd l2 (by decide))]
  obtain ⟨_, hK1⟩ := K_wake (U' := k_ww (k_wl (k_wl U (k_sp U own o + 2) ((k_ql U own o).eraseIdx i)) (k_sp U own o + 1) (k_hl U own o ++ [x])) (dl U own t) none) (C' := C') (r' := r') hI0 hK0 g1 g2 g4 g5 g6 p2 g3 ho p3 hx p4 p5 g9 g11
    (by
      show (k_wl (k_wl U (k_sp U own o + 2) ((k_ql U own o).eraseIdx i)) (k_sp U own o + 1) (k_hl U own o ++ [x])).2.1 (k_sp U own o + 1) = _
      rw [k_ls])
    (fun y hy hne => by
      show (k_wl (k_wl U (k_sp U own o + 2) ((k_ql U own o).eraseIdx i)) (k_sp U own o + 1) (k_hl U own o ++ [x])).2.1 (k_sp U own y + 1) = _
      rw [k_ln (fun z => hne ((sp_ne E kLk.1 hy ho).1 (by omega))), k_ln (sp_ne E kLk.1 hy ho).2.2]; rfl)
    (by
      show (k_wl (k_wl U (k_sp U own o + 2) ((k_ql U own o).eraseIdx i)) (k_sp U own o + 1) (k_hl U own o ++ [x])).2.1 (k_sp U own o + 2) = _
      rw [k_ln o21.2.1, k_ls])
    (fun y hy hne => by
      show (k_wl (k_wl U (k_sp U own o + 2) ((k_ql U own o).eraseIdx i)) (k_sp U own o + 1) (k_hl U own o ++ [x])).2.1 (k_sp U own y + 2) = _
      rw [k_ln (sp_ne E kLk.1 hy ho).2.1, k_ln (fun z => hne ((sp_ne E kLk.1 hy ho).1 (by omega)))]; rfl)
    rfl rfl
    (fun a ha => by
      rw [uL, k_ln (fun z => ha (by rw [z]; exact l1)), k_ln (fun z => ha (by rw [z]; exact l2))]) hr w' g13 g14
  exact q2 k t q S1 _ _ _ r' g1 g2 g4 g5 g6 hset g8 g9 g10 g11 g12 (cu_wake (by obtain ⟨z1, z2⟩ := o1_L1 (ask_ok hI0 hK0 g1 g2 (Or.inl g4)) n40; rw [z1]; exact (dp_ok hL.2.2.1 z2).2) hI0 g2 p2 g3 g5 g6 g9 g13) hK1 dlU hr
end SN
