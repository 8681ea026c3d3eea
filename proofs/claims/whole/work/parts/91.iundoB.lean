/-! a deal undone as a whole: the invariants stay -/
section RT
variable {S S' : m_S} {A : m_A} {n b l nl nw nr na ne t i c T : Nat} {cc : Int32} {ch : Nat → List Nat}
/-- the reference's invariants, all of them -/
def I_all (n b l nl nw nr na ne : Nat) (ch : Nat → List Nat) (cur c T : Nat) (S : m_S) : Prop :=
  I_lg n b nr na ch S ∧ I_de b l cur S ∧ I_en b ne nr ch S ∧ I_lk n b nl nw cur ch S ∧ I_ve n ne S ∧ I_mi n nr S ∧ I_po c T l nr na cur nw S ∧ I_ak n b cur S.2
theorem pw_nd {l : List Nat} (h : l.Pairwise (· < ·)) : l.Nodup := h.imp (fun {a b} z => by omega)
theorem mem_er {l : List Nat} (nd : l.Nodup) (hi : l[i]? = some t) {u : Nat} : u ∈ l.eraseIdx i ↔ u ∈ l ∧ u ≠ t := by
  constructor
  · intro h
    refine ⟨List.mem_of_mem_eraseIdx h, fun e => ?_⟩
    subst e
    rw [List.mem_eraseIdx_iff_getElem?] at h
    obtain ⟨j, hj, e2⟩ := h
    exact hj (idx_inj nd e2 hi)
  · rintro ⟨h1, h2⟩
    rw [List.mem_eraseIdx_iff_getElem?]
    obtain ⟨j, hj, e⟩ := List.getElem_of_mem h1
    refine ⟨j, fun e2 => ?_, by rw [List.getElem?_eq_getElem hj, e]⟩
    subst e2
    rw [List.getElem?_eq_getElem hj, e] at hi
    cases hi
    exact h2 rfl
theorem sum_er {f : Nat → Nat} : ∀ {l : List Nat} {i : Nat}, l[i]? = some t → (l.map f).sum = ((l.eraseIdx i).map f).sum + f t
  | [], _, h => by cases h
  | x :: l, 0, h => by
    cases h
    simp only [List.eraseIdx_zero, List.tail_cons, List.map_cons, List.sum_cons]
    omega
  | x :: l, i + 1, h => by
    rw [List.getElem?_cons_succ] at h
    have := sum_er (f := f) h
    simp only [List.eraseIdx_cons_succ, List.map_cons, List.sum_cons]
    omega
theorem sum_cg {α : Type} {f g : α → Nat} {l : List α} (h : ∀ t ∈ l, f t = g t) : (l.map f).sum = (l.map g).sum := by
  rw [List.map_congr_left h]
theorem I_undo (h : I_all n b l nl nw nr na ne ch 0 c T S) (h1 : 1 ≤ t) (h2 : t ≤ b) (hu : undw S.2 t) (hi : (v_lv l S.2)[i]? = some t) :
    r_undo t cc (ch t).length S (Su t cc (ch t).length nw nl i l S) ∧ ∃ nl' nw', (Su t cc (ch t).length nw nl i l S).1 72 = nI nl' ∧ (Su t cc (ch t).length nw nl i l S).1 80 = nI nw' ∧ v_L nl' (Su t cc (ch t).length nw nl i l S).2 = (v_L nl S.2).filter (fun x => x.1 != nI t) ∧ v_W nw' (Su t cc (ch t).length nw nl i l S).2 = (v_W nw S.2).filter (fun x => x.1 != nI t) ∧
      I_all n b (l - 1) nl' nw' (nr + (ch t).length + 1) na ne (up1 ch t []) 0 c (T + (ch t).length + 1) (Su t cc (ch t).length nw nl i l S) := by
  obtain ⟨hL, hD, hE, hK, hV, hM, hP, hX⟩ := h
  obtain ⟨n1, n2⟩ := nl_le hD hK hL.2.2.1.1 hP
  have hL' := hL
  have hD' := hD
  have hK' := hK
  have hP' := hP
  obtain ⟨g1, g2, g3, g4, g5, g6, g7, g8, g9, g10⟩ := hL'
  obtain ⟨d1, d2, d3, d4, d5, d6, d7, d8, d9, d10, d11⟩ := hD'
  obtain ⟨k1, k2, k3, k4, k5, k6, k7, k8, k9, k10, k11, ⟨kq, G, k13⟩, k12⟩ := hK'
  obtain ⟨p1, p2, p3, p4, p5, p6, p7⟩ := hP'
  have hch := g7 t h1 h2 (Or.inl hu)
  have hil : i < l := by have := (List.getElem?_eq_some_iff.mp hi).1; rw [v_lvl] at this; exact this
  have nd := pw_nd d8
  have em : (S.2 52 t).toNatClampNeg = (ch t).length := by rw [hch.1, i_cl (by have := hch.2.1; omega)]
  have hsum := sum_er (f := fun t => (S.2 52 t).toNatClampNeg + 1 + (if S.2 47 t = 2 ∨ t = 0 then 2 else 0)) hi
  have hlen : nr + (ch t).length + 1 ≤ 1100 := by
    rw [em] at hsum
    omega
  obtain ⟨wt, hI1⟩ := I_tbm h1 h2 (ch t).length nr ch S hL hu (Nat.le_refl _) (by omega)
  have tr := ytbm_r (t := t) (ch t).length nr S g1 (by omega)
  have lvi : S.2 46 i = nI t := by
    obtain ⟨u, e1, e2, e3⟩ := d7 i hil
    rw [v_lvg, if_pos hil, e1, i_cl (by omega)] at hi
    cases hi
    exact e1
  obtain ⟨sr1, sr2, sr3⟩ := su_r (t := t) (cc := cc) (w := nw) (nl := nl) (i := i) (l := l) g1 (show nr + (ch t).length ≤ 6000 by omega)
  obtain ⟨ss1, ss2, ss3⟩ := su_s (t := t) (cc := cc) (m := (ch t).length) (w := nw) (nl := nl) (i := i) (l := l) (S := S)
  obtain ⟨sg1, sg2⟩ := su_g (t := t) (cc := cc) (m := (ch t).length) (w := nw) (nl := nl) (i := i) (l := l) (S := S)
  obtain ⟨nl', l1, l2, l3⟩ := su_L (t := t) (cc := cc) (m := (ch t).length) (w := nw) (nl := nl) (i := i) (l := l) (S := S)
  obtain ⟨nw', w1, w2, w3⟩ := su_W (t := t) (cc := cc) (m := (ch t).length) (nw := nw) (nl := nl) (i := i) (l := l) (S := S) k2 (by omega)
  obtain ⟨sv1, sv2⟩ := su_lv (t := t) (cc := cc) (m := (ch t).length) (w := nw) (nl := nl) (S := S) hil
  have sA : ∀ f, f ∉ fp_un → (Su t cc (ch t).length nw nl i l S).2 f = S.2 f := fun f hf => su_A hf
  have sF : ∀ f, f ∉ [13, 80, 72, 45, 62] → (Su t cc (ch t).length nw nl i l S).1 f = S.1 f := fun f hf => su_F hf
  have sV : ∀ f, f = 9 ∨ f = 10 ∨ f = 11 ∨ f = 12 ∨ f = 53 ∨ f = 52 → (Su t cc (ch t).length nw nl i l S).2 f = (y_tb t (ch t).length S).2 f := fun f hf => su_V hf
  have rU : r_undo t cc (ch t).length S (Su t cc (ch t).length nw nl i l S) := by
    refine ⟨nw, nl, i, l, by omega, by have := hch.2.1; omega, hch.1, wt, by omega, by rw [ytbm_F (by decide)]; exact k2, ?_, by omega, by rw [ydwL_F (by decide), ytbm_F (by decide)]; exact k1, fun k hk => ?_, ?_, by omega, hil, ?_, ?_, fun j hj => ?_, rfl⟩
    · have e := ytbm_A (t := t) (f := 86) (by decide) (ch t).length S
      unfold w_ah; rw [e]; exact k4
    · rw [ydwL_A (by decide), ytbm_A (by decide)]
      obtain ⟨u, o, v, a1, a2, a3, a4, a5, a6, a7, a8, a9, b0, b1, b2⟩ := k5 _ (mem_vL hk)
      rcases b2 with b2 | b2
      · exact Or.inl b2
      · exact Or.inr b2.1
    · rw [yd_F (by decide), ydwL_F (by decide), tr.1]; exact vp_in_nI (by omega) (by omega)
    · unfold y_gone; dsimp only; rw [yput_F (by decide), yd_F (by decide), ydwL_F (by decide), ytbm_F (by decide)]; exact d5
    · unfold y_gone; dsimp only; rw [up_n (by decide), up_n (by decide), up_n (by decide), yput_A (by decide), yd_A (by decide), ydwL_A (by decide), ytbm_A (by decide)]; exact lvi
    · unfold y_gone; dsimp only; rw [up_n (by decide), up_n (by decide), up_n (by decide), yput_A (by decide), yd_A (by decide), ydwL_A (by decide), ytbm_A (by decide)]
      intro e
      have : (v_lv l S.2)[j]? = some t := by rw [v_lvg, if_pos (by omega), e, i_cl (by omega)]
      have := idx_inj nd this hi
      omega
  refine ⟨rU, nl', nw', l2, w2, l3, w3, ?_⟩
  have sah : w_ah 13 (Su t cc (ch t).length nw nl i l S).2 := by
    have e : (Su t cc (ch t).length nw nl i l S).2 86 = (y_dwL t nw (y_tb t (ch t).length S)).2 86 := by
      unfold Su y_gone2
      dsimp only
      rw [yl_A (by decide)]
      unfold y_gone
      dsimp only
      rw [up_n (by decide), up_n (by decide), up_n (by decide), yput_A (by decide), yd_A (by decide)]
    unfold w_ah
    rw [e]
    exact ah_dwL nw nw _ (Nat.le_refl _) (by omega) (by rw [ytbm_F (by decide)]; exact k2) (by unfold w_ah; rw [ytbm_A (by decide)]; exact k4)
  clear rU
  generalize Su t cc (ch t).length nw nl i l S = S2 at *
  have und : ∀ u, u ≠ t → (undw S2.2 u ↔ undw S.2 u) := fun u hne => by unfold undw; rw [ss1, up_n hne]
  have undt : ¬ undw S2.2 t := by unfold undw; rw [ss1, up_s]; decide
  have undi : ∀ u, undw S2.2 u → u ≠ t ∧ undw S.2 u := fun u h => by
    have hne : u ≠ t := fun e => undt (e ▸ h)
    exact ⟨hne, (und u hne).mp h⟩
  have st2 : ∀ u v : _, v ≠ (4 : Int32) → S2.2 47 u = v → u ≠ t ∧ S.2 47 u = v := fun u v hv e => by
    have hne : u ≠ t := fun e2 => by rw [e2, ss1, up_s] at e; exact hv e.symm
    rw [ss1, up_n hne] at e
    exact ⟨hne, e⟩
  have ne9 : ∀ u, u ≤ b → u ≠ t → ¬ nI u = nI t := fun u hb hne e => hne (by rw [i_eq (by omega) (by omega)] at e; exact e)
  have many2 : ∀ u, u ≠ t → S2.2 52 u = S.2 52 u ∧ S2.2 53 u = S.2 53 u := fun u hne => by
    rw [sV _ (by decide), sV _ (by decide)]; exact ytbm_u hne _ _
  refine ⟨?_, ?_, ?_, ?_, hV.cg (sA _ (by decide)) (sA _ (by decide)) (sA _ (by decide)) (sA _ (by decide)) (sA _ (by decide)), hM.cg (by omega) (fun f hf => sF f (by revert f; decide)) (sA _ (by decide)), ?_, fun u u1 u2 hin => ?_⟩
  · have ace1 : ac_eq (y_tb t (ch t).length S).2 S2.2 := ⟨by rw [sA _ (by decide), ytbm_A (by decide)], by rw [sA _ (by decide), ytbm_A (by decide)], by rw [sA _ (by decide), ytbm_A (by decide)], by rw [sA _ (by decide), ytbm_A (by decide)], by rw [sA _ (by decide), ytbm_A (by decide)], by rw [sA _ (by decide), ytbm_A (by decide)], by rw [sA _ (by decide), ytbm_A (by decide)], by rw [sA _ (by decide), ytbm_A (by decide)], by rw [sA _ (by decide), ytbm_A (by decide)]⟩
    have est1 : (y_tb t (ch t).length S).2 47 = S.2 47 := ytbm_A (by decide) _ _
    refine hI1.cg sr1 (by omega) sr2 (fun j j1 j2 => ?_) (by rw [sF _ (by decide), ytbm_F (by decide)]) ace1 (by rw [sA _ (by decide), ytbm_A (by decide)]) (by rw [sA _ (by decide), ytbm_A (by decide)]) (by rw [sA _ (by decide), ytbm_A (by decide)]) (by rw [sA _ (by decide), ytbm_A (by decide)]) (sV _ (by decide)) (sV _ (by decide)) (fun u u1 u2 hus => ?_) (fun u u1 u2 hus => ⟨by rw [sV _ (by decide)], by rw [sV _ (by decide)]⟩) (fun u u1 u2 => ⟨fun z => ?_, fun z => ?_⟩)
    · have ej : j = nr + (ch t).length := by omega
      subst ej
      exact ⟨row_no (by rw [sr3.1]; decide) (by rw [sr3.1]; decide) (by rw [sr3.1]; decide), by rw [sr3.1]; decide⟩
    · have hne : u ≠ t := by
        rcases hus with z | z
        · exact (undi u z).1
        · exact (st2 u 3 (by decide) z).1
      rw [up1_n hne, up1_n hne]
    · unfold undw; rw [est1]; exact (undi u z).2
    · exact Or.inr (by rw [est1]; exact (st2 u 3 (by decide) z).2)
  · refine ⟨d1, (sF _ (by decide)).trans d2, fun u u1 u2 => ?_, fun u u1 u2 => ?_, sg2, by omega, fun j hj => ?_, ?_, fun u => ?_, Or.inl rfl, fun u u1 u2 hin => ?_⟩
    · by_cases hne : u = t
      · subst hne
        obtain ⟨st, lv, m, q, a1, a2, a3, a4, a5, a6, a7, a8, a9, b1, b2⟩ := d3 u u1 u2
        refine ⟨4, 0, 0, q, by rw [ss1, up_s]; rfl, by omega, by omega, by rw [ss3, up_s]; rfl, by omega, fun _ => rfl, ?_, by omega, by rw [sA _ (by decide)]; exact a9, b1, fun _ => 0, fun v v1 v2 => by omega⟩
        have := (hI1.2.2.2.2.2.2.1 u u1 u2 (Or.inl (by unfold undw at hu ⊢; rw [ytbm_A (by decide)]; exact hu))).1
        rw [up1_s, List.drop_length] at this
        rw [sV _ (by decide)]
        exact this
      · obtain ⟨st, lv, m, q, a1, a2, a3, a4, a5, a6, a7, a8, a9, b1, bs, b2⟩ := d3 u u1 u2
        refine ⟨st, lv, m, q, by rw [ss1, up_n hne]; exact a1, a2, a3, by rw [ss3, up_n hne]; exact a4, a5, a6, by rw [(many2 u hne).1]; exact a7, a8, by rw [sA _ (by decide)]; exact a9, b1, bs, fun v v1 v2 => ?_⟩
        rw [sA _ (by decide)]
        exact b2 v v1 v2
    · have hne : u ≠ t := by omega
      obtain ⟨z1, z2, z3, z4, z5, z6, z7⟩ := d4 u u1 u2
      exact ⟨by rw [ss1, up_n hne]; exact z1, by rw [ss2, up_n hne]; exact z2, by rw [ss3, up_n hne]; exact z3, by rw [(many2 u hne).1]; exact z4, by rw [sA _ (by decide)]; exact z5, by rw [sA _ (by decide)]; exact z6, by rw [sA _ (by decide)]; exact z7⟩
    · rcases sv2 j hj with e | e
      · rw [e]; exact d7 j (by omega)
      · rw [e]; exact d7 (j + 1) (by omega)
    · rw [sv1]; exact d8.sublist (List.eraseIdx_sublist _ _)
    · rw [sv1, mem_er nd hi, d9 u]
      constructor
      · rintro ⟨⟨z1, z2, z3⟩, z4⟩; exact ⟨z1, z2, (und u z4).mpr z3⟩
      · rintro ⟨z1, z2, z3⟩; exact ⟨⟨z1, z2, (undi u z3).2⟩, (undi u z3).1⟩
    · rw [sA 67 (by decide), sA 68 (by decide), sA 71 (by decide)]
      refine d11 u u1 u2 ?_
      rcases hin with z | z
      · exact Or.inl (st2 u 2 (by decide) z).2
      · exact Or.inr z
  · refine hE.cg (by omega) (fun j hj => ?_) (fun j j1 j2 => ?_) (sF _ (by decide)) (sA _ (by decide)) (sA _ (by decide)) (sA _ (by decide)) (fun u u1 u2 z => up1_n (st2 u 3 (by decide) z).1) (fun u _ _ => by rw [sA _ (by decide)]) (fun u u1 u2 => ⟨fun z => (st2 u 3 (by decide) z).2, fun z => ?_⟩)
    · obtain ⟨a1, a2, a3, a4, a5, a6, a7, a8⟩ := sr2 j (by omega)
      obtain ⟨b1, b2, b3, b4, b5, b6, b7, b8⟩ := tr.2.1 j hj
      exact ⟨a1.trans b1, a2.trans b2, a3.trans b3, a4.trans b4, a5.trans b5, a6.trans b6, a7.trans b7, a8.trans b8⟩
    · by_cases e : j = nr + (ch t).length
      · subst e; rw [sr3.1]; decide
      · rw [(sr2 j (by omega)).1, tr.2.2 j j1 (by omega)]; decide
    · have hne : u ≠ t := fun e => by subst e; rcases hu with q | q <;> rw [q] at z <;> exact absurd z (by decide)
      rw [ss1, up_n hne]; exact z
  · have memL : ∀ x, x ∈ v_L nl' S2.2 ↔ x ∈ v_L nl S.2 ∧ x.1 ≠ nI t := fun x => by rw [l3, List.mem_filter, bne_iff_ne]
    have memW : ∀ x, x ∈ v_W nw' S2.2 ↔ x ∈ v_W nw S.2 ∧ x.1 ≠ nI t := fun x => by rw [w3, List.mem_filter, bne_iff_ne]
    have eso := sA 4 (by decide)
    refine ⟨l2, w2, by omega, ?_, fun x hx => ?_, fun x hx => ?_, ?_, fun u u1 u2 z => ?_, fun x hx y hy => ?_, ?_, fun u u1 u2 z => ?_, ⟨fun x hx y hy => kq x ((memW x).mp hx).1 y ((memL y).mp hy).1, G, fun u u1 u2 z => ?_⟩, fun u u1 u2 z p j hp hkk => ?_⟩
    · exact sah
    · obtain ⟨x1, x2⟩ := (memL x).mp hx
      obtain ⟨u, o, v, a1, a2, a3, a4, a5, a6, a7, a8, a9, b0, b1, b2⟩ := k5 x x1
      have hne : u ≠ t := fun e => x2 (by rw [a1, e])
      refine ⟨u, o, v, a1, a2, a3, (und u hne).mpr a4, a5, a6, a7, a8, a9, b0, by rw [ss3, up_n hne]; exact b1, ?_⟩
      rcases b2 with b2 | b2
      · exact Or.inl b2
      · refine Or.inr ⟨b2.1, ?_⟩
        rcases b2.2 with z | z
        · exact Or.inl (by rw [ss1, up_n hne]; exact z)
        · exact Or.inr z
    · obtain ⟨x1, x2⟩ := (memW x).mp hx
      obtain ⟨u, o, a1, a2, a3, a4, a5, a6, a7, a8, a9, b1, b2⟩ := k6 x x1
      have hne : u ≠ t := fun e => x2 (by rw [a1, e])
      refine ⟨u, o, a1, a2, a3, by rw [ss1, up_n hne]; exact a4, a5, a6, a7, a8, a9, ?_, ?_⟩
      · unfold dp at b1 ⊢
        rw [sA 68 (by decide), sA 71 (by decide), sA 7 (by decide), sA 67 (by decide), sA 69 (by decide)]
        exact b1
      · unfold dp o_1 at b2 ⊢
        rw [sA 68 (by decide), sA 71 (by decide), sA 7 (by decide), sA 67 (by decide), sA 70 (by decide)]
        exact b2
    · rw [w3]; exact k7.sublist (List.filter_sublist.map _)
    · obtain ⟨q1, q2⟩ := st2 u 2 (by decide) z
      obtain ⟨x, x1, x2⟩ := k8 u u1 u2 q2
      exact ⟨x, (memW x).mpr ⟨x1, by rw [x2]; exact ne9 u u2 q1⟩, x2⟩
    · rw [eso]; exact k9 x ((memL x).mp hx).1 y ((memL y).mp hy).1
    · rw [l3]; exact k10.filter _
    · obtain ⟨q1, q2⟩ := undi u z
      have := k11 u u1 u2 q2
      have e1 : rem7 S2.2 0 u = rem7 S.2 0 u := by
        unfold rem7 dp o_1
        rw [ss1, up_n q1, sA 71 (by decide), sA 7 (by decide), sA 68 (by decide), sA 67 (by decide), sA 70 (by decide)]
      have e2 : (xl u (v_L nl' S2.2)).length ≤ (xl u (v_L nl S.2)).length := by
        rw [l3]; unfold xl; exact (List.filter_sublist.filter _).length_le
      rw [e1, sA 55 (by decide)]
      omega
    · obtain ⟨q1, q2⟩ := undi u z
      obtain ⟨j1, j2, j3, j4⟩ := k13 u u1 u2 q2
      refine ⟨by rw [sA 55 (by decide)]; exact j1, fun x hx => j2 x ((memL x).mp hx).1, fun x hx => j3 x ((memW x).mp hx).1, fun hin => ?_⟩
      unfold kd_1 kd_2 at j4 ⊢
      rw [sA 68 (by decide), sA 67 (by decide), sA 70 (by decide), sA 69 (by decide)]
      refine j4 ?_
      rcases hin with y | y
      · exact Or.inl (st2 u 2 (by decide) y).2
      · exact Or.inr y
    · obtain ⟨q1, q2⟩ := undi u z
      rw [up1_n q1] at hp
      rw [sA 36 (by decide)] at hkk
      obtain ⟨x, x1, x2, x3, x4, x5, x6, x9, v, v4, x7, x8⟩ := k12 u u1 u2 q2 p j hp hkk
      refine ⟨x, (memL x).mpr ⟨x1, by rw [x2]; exact ne9 u u2 q1⟩, x2, by rw [sA 35 (by decide)]; exact x3, x4, by rw [sA 36 (by decide)]; exact x5, by rw [sA 37 (by decide)]; exact x6, x9, v, v4, x7, ?_⟩
      rw [sA 54 (by decide)]; exact x8
  · have ne0 : ∀ u, u ∈ (v_lv l S.2).eraseIdx i → u ≠ t := fun u hm => ((mem_er nd hi).mp hm).2
    have s1 : ((v_lv (l - 1) S2.2).map (fun t => (S2.2 52 t).toNatClampNeg + 1 + (if S2.2 47 t = 2 ∨ t = 0 then 2 else 0))).sum = (((v_lv l S.2).eraseIdx i).map (fun t => (S.2 52 t).toNatClampNeg + 1 + (if S.2 47 t = 2 ∨ t = 0 then 2 else 0))).sum := by
      rw [sv1]; exact sum_cg (fun u hm => by rw [(many2 u (ne0 u hm)).1, ss1, up_n (ne0 u hm)])
    have s2 : ((v_lv (l - 1) S2.2).map (fun t => if S2.2 47 t = 2 ∨ t = 0 then 1 else 0)).sum = (((v_lv l S.2).eraseIdx i).map (fun t => if S.2 47 t = 2 ∨ t = 0 then 1 else 0)).sum := by
      rw [sv1]; exact sum_cg (fun u hm => by rw [ss1, up_n (ne0 u hm)])
    have s3 : ((v_lv (l - 1) S2.2).map (fun t => (S2.2 55 t).toNatClampNeg)).sum = (((v_lv l S.2).eraseIdx i).map (fun t => (S.2 55 t).toNatClampNeg)).sum := by
      rw [sv1, sA 55 (by decide)]
    have s4 : ((v_lv (l - 1) S2.2).map (fun t => if S2.2 47 t = 2 then 11 - (S2.2 71 t).toNatClampNeg else if t = 0 then 12 - (S2.2 71 t).toNatClampNeg else 0)).sum = (((v_lv l S.2).eraseIdx i).map (fun t => if S.2 47 t = 2 then 11 - (S.2 71 t).toNatClampNeg else if t = 0 then 12 - (S.2 71 t).toNatClampNeg else 0)).sum := by
      rw [sv1]; exact sum_cg (fun u hm => by rw [ss1, up_n (ne0 u hm), sA 71 (by decide)])
    have t2 := sum_er (f := fun t => if S.2 47 t = 2 ∨ t = 0 then 1 else 0) hi
    have t3 := sum_er (f := fun t => (S.2 55 t).toNatClampNeg) hi
    have t4 := sum_er (f := fun t => if S.2 47 t = 2 then 11 - (S.2 71 t).toNatClampNeg else if t = 0 then 12 - (S.2 71 t).toNatClampNeg else 0) hi
    have eq5 := sF 66 (by decide)
    rw [em] at hsum
    refine ⟨by omega, ?_, p3, ?_, ?_, ?_, by rw [eq5]; exact p7⟩
    · rw [s1]; omega
    · rw [s2]; omega
    · rw [s3]; omega
    · rw [s4, eq5]; omega
  · rw [sA 67 (by decide), sA 68 (by decide), sA 69 (by decide), sA 70 (by decide)]
    refine hX u u1 u2 ?_
    rcases hin with z | z
    · exact Or.inl (st2 u 2 (by decide) z).2
    · exact Or.inr z
end RT
