/-! end: the reference's invariants -/
section UL
variable {S S' S2 : m_S} {A : m_A} {n b l nl nw nr na ne t j i c T : Nat} {ch ch' : Nat → List Nat}
/-- the log when things elsewhere change -/
theorem I_lg.cgE {nr' : Nat} (h : I_lg n b nr na ch S) (hr : S'.1 13 = nI nr') (hle : nr ≤ nr') (rw' : rw_eq nr S.2 S'.2) (new : ∀ j, nr ≤ j → j < nr' → I_row b S'.2 j ∧ ¬ S'.2 17 j = 0) (ha : S'.1 33 = S.1 33) (ace : ac_eq S.2 S'.2)
    (es : S'.2 4 = S.2 4) (ep : S'.2 5 = S.2 5) (ed : S'.2 7 = S.2 7) (ev : S'.2 6 = S.2 6) (ez : ∀ o, o < n → S'.2 10 o = S.2 10 o) (et : ∀ o, o < n → S'.2 11 o = S.2 11 o) (hz : w_sz S'.2) (ec : ∀ t, 1 ≤ t → t ≤ b → undw S'.2 t ∨ S'.2 47 t = 3 → ch' t = ch t)
    (ml : ∀ t, 1 ≤ t → t ≤ b → undw S'.2 t ∨ S'.2 47 t = 3 → S'.2 52 t = S.2 52 t ∧ S'.2 53 t = S.2 53 t) (st : ∀ t, 1 ≤ t → t ≤ b → (undw S'.2 t → undw S.2 t) ∧ (S'.2 47 t = 3 → undw S.2 t ∨ S.2 47 t = 3)) : I_lg n b nr' na ch' S' := by
  obtain ⟨g1, g2, g3, g4, g5, g6, g7, g8, g9, g10⟩ := h
  have us : ∀ u, 1 ≤ u → u ≤ b → undw S'.2 u ∨ S'.2 47 u = 3 → undw S.2 u ∨ S.2 47 u = 3 := fun u u1 u2 hu => by
    rcases hu with hu | hu
    · exact Or.inl ((st u u1 u2).1 hu)
    · exact (st u u1 u2).2 hu
  have mdj : ∀ j, nr ≤ j → j ≤ nr' → md S'.2 j = md S.2 nr := fun j => by
    induction j with
    | zero => intro h1 _; rw [show nr = 0 by omega]; rfl
    | succ j ih =>
      intro h1 h2
      by_cases c : nr = j + 1
      · rw [← c]; exact md_cg rw' (Nat.le_refl _)
      · unfold md
        rw [y_cw_s, Nat.zero_add, if_neg (new j (by omega) (by omega)).2, Nat.add_zero]
        exact ih (by omega) (by omega)
  refine ⟨hr, by rw [mdj nr' hle (Nat.le_refl _)]; exact g2, ?_, ha.trans g4, g5, fun j hj => ?_, fun u u1 u2 hu => ?_, fun u u1 u2 hu => ?_, fun u u' u1 u2 u3 u4 hu1 hu2 hne p hp q hq => ?_, hz⟩
  · unfold R_ob at g3 ⊢; rw [es, ed, ep]; exact g3
  · by_cases c : j < nr
    · obtain ⟨r1, r2, r3, r4, r5, r6, r7, r8⟩ := rw' j c
      exact (g6 j c).cg r1 r2 r3 r4 r5 r6 r7 (md_cg rw' (by omega)) (fun q _ => by rw [es]) (fun q _ => by rw [ep]) (fun q _ => by rw [ev])
    · exact (new j (by omega) hj).1
  · rw [ec u u1 u2 hu]
    exact (g7 u u1 u2 (us u u1 u2 hu)).cg ace rw' hle (Nat.le_refl _) (ml u u1 u2 hu).1 (ml u u1 u2 hu).2
  · rw [ec u u1 u2 (Or.inl hu)]
    exact (g8 u u1 u2 ((st u u1 u2).1 hu)).cg ace es (fun o ho => Or.inl (by rw [ez o ho])) (fun o ho q _ => Or.inl (by rw [et o ho]))
  · rw [ec u u1 u2 (Or.inl hu1)] at hp
    rw [ec u' u3 u4 (Or.inl hu2)] at hq
    have := g9 u u' u1 u2 u3 u4 ((st u u1 u2).1 hu1) ((st u' u3 u4).1 hu2) hne p hp q hq
    unfold xc at this ⊢
    rw [ace.2.1, ace.2.2.1, ace.2.2.2.1]
    exact this
theorem en_lt (hE : I_en b ne nr ch S) (hb : b ≤ 400) (h1 : 1 ≤ j) (h2 : j ≤ b) (hs : ¬ S.2 47 j = 3) : ne + 1 ≤ b := by
  obtain ⟨g1, g2, g3, g4, g5, g6, g7⟩ := hE
  let f : Nat → Nat := fun e => (S.2 61 (e + 1)).toNatClampNeg
  have hf : ∀ e, e < ne → 1 ≤ f e ∧ f e ≤ b ∧ S.2 47 (f e) = 3 ∧ S.2 58 (f e) = nI (e + 1) := fun e he => by
    obtain ⟨u, ρ, a1, a2, a3, a4, a5, _⟩ := g4 e he
    have : f e = u := by show (S.2 61 (e + 1)).toNatClampNeg = u; rw [a1, i_cl (by omega)]
    rw [this]
    exact ⟨a2, a3, a4, a5⟩
  have nd : (0 :: j :: (List.range ne).map f).Nodup := by
    rw [List.nodup_cons, List.nodup_cons]
    refine ⟨fun z => ?_, fun z => ?_, ?_⟩
    · rcases List.mem_cons.mp z with z | z
      · omega
      · obtain ⟨e, e1, e2⟩ := List.mem_map.mp z
        have := (hf e (List.mem_range.mp e1)).1
        omega
    · obtain ⟨e, e1, e2⟩ := List.mem_map.mp z
      have := (hf e (List.mem_range.mp e1)).2.2.1
      rw [e2] at this
      exact hs this
    · unfold List.Nodup
      rw [List.pairwise_map]
      refine (List.nodup_range (n := ne)).imp_of_mem (fun {x y} hx hy hne e => hne ?_)
      have e1 := (hf x (List.mem_range.mp hx)).2.2.2
      have e2 := (hf y (List.mem_range.mp hy)).2.2.2
      have lx := List.mem_range.mp hx
      have ly := List.mem_range.mp hy
      rw [e, e2, i_eq (by omega) (by omega)] at e1
      omega
  have := nodup_len (b + 1) _ nd (fun x hx => by
    rcases List.mem_cons.mp hx with z | z
    · omega
    · rcases List.mem_cons.mp z with z | z
      · omega
      · obtain ⟨e, e1, e2⟩ := List.mem_map.mp z
        have := (hf e (List.mem_range.mp e1)).2.1
        omega)
  rw [List.length_cons, List.length_cons, List.length_map, List.length_range] at this
  omega
theorem I_ended (h : I_all n b l nl nw nr na ne ch 0 c T S) (h1 : 1 ≤ j) (h2 : j ≤ b) (hs : S.2 47 j = 1) (hlv : S.2 51 j = 0) (hi : (v_lv l S.2)[i]? = some j) (kp : Kp j ne n S S2) :
    ∃ nl', nl' ≤ nl ∧ (Sf j ne nl i l S2).1 72 = nI nl' ∧ v_L nl' (Sf j ne nl i l S2).2 = (v_L nl S.2).filter (fun x => x.1 != nI j) ∧ v_W nw (Sf j ne nl i l S2).2 = (v_W nw S.2).filter (fun x => x.1 != nI j) ∧ I_all n b (l - 1) nl' nw (nr + 1) na (ne + 1) ch 0 c (T + 1) (Sf j ne nl i l S2) := by
  obtain ⟨hL, hD, hE, hK, hV, hM, hP, hX⟩ := h
  have neb := en_lt hE hD.1 h1 h2 (by rw [hs]; decide)
  have n40 := hL.2.2.1.1
  have hL' := hL
  have hP' := hP
  have hE' := hE
  obtain ⟨g1, g2, g3, g4, g5, g6, g7, g8, g9, g10⟩ := hL'
  obtain ⟨d1, d2, d3, d4, d5, d6, d7, d8, d9, d10, d11⟩ := hD
  obtain ⟨k1, k2, k3, k4, k5, k6, k7, k8, k9, k10, k11, ⟨kq, G, k13⟩, k12⟩ := hK
  obtain ⟨p1, p2, p3, p4, p5, p6, p7⟩ := hP'
  obtain ⟨f1, f2, f3, f4, f5, f6, f7, f8, f9⟩ := kp
  have hu : undw S.2 j := Or.inl hs
  have hch := g7 j h1 h2 (Or.inl hu)
  have hil : i < l := by have := (List.getElem?_eq_some_iff.mp hi).1; rw [v_lvl] at this; exact this
  have nd := pw_nd d8
  have r2 : S2.1 13 = nI nr := (f1 _ (by decide)).trans g1
  obtain ⟨sr1, sr2, sr3⟩ := sf_r (j := j) (e := ne) (nl := nl) (i := i) (l := l) r2 (show nr ≤ 6000 by omega)
  obtain ⟨ss1, ss2, ss3⟩ := sf_s (j := j) (e := ne) (nl := nl) (i := i) (l := l) (S2 := S2)
  obtain ⟨nl', l1, l2, l3⟩ := sf_L (j := j) (e := ne) (nl := nl) (i := i) (l := l) (S2 := S2)
  obtain ⟨sv1, sv2⟩ := sf_lv (j := j) (e := ne) (nl := nl) (S2 := S2) hil
  have sff := sf_f (j := j) (e := ne) (nl := nl) (i := i) (l := l) r2
  have sA2 : ∀ f, f ∉ fp_R → f ∉ fp_L → f ∉ [59, 47, 46] → (Sf j ne nl i l S2).2 f = S2.2 f := fun f a b c => sf_A a b c
  have sF2 : ∀ f, f ∉ [13, 14, 15, 72, 45] → (Sf j ne nl i l S2).1 f = S2.1 f := fun f hf => sf_F hf
  have sA : ∀ f, f ∉ fp_R → f ∉ fp_L → f ∉ [59, 47, 46] → f ∉ [61, 58, 100, 101, 9, 10, 11, 12, 97, 98, 99] → (Sf j ne nl i l S2).2 f = S.2 f := fun f a b c d => (sA2 f a b c).trans (f3 f d)
  have sF : ∀ f, f ∉ [13, 14, 15, 72, 45] → f ∉ [60, 25, 28, 26, 27] → (Sf j ne nl i l S2).1 f = S.1 f := fun f a b => (sF2 f a).trans (f1 f b)
  have vl2 : v_L nl S2.2 = v_L nl S.2 := vL_cg (fun f hf => f3 f (by clear sA sF sA2 sF2; revert f; decide))
  have vlv2 : v_lv l S2.2 = v_lv l S.2 := by unfold v_lv; rw [f3 _ (by decide)]
  rw [vl2] at l3
  rw [vlv2] at sv1
  rw [f3 _ (by decide)] at sv2
  rw [f3 _ (by decide)] at ss1 ss2
  rw [r2] at ss2
  have w0 : v_W nw (Sf j ne nl i l S2).2 = v_W nw S.2 := vW_cg (fun f hf => sA f (by clear sA sF sA2 sF2; revert f; decide) (by clear sA sF sA2 sF2; revert f; decide) (by clear sA sF sA2 sF2; revert f; decide) (by clear sA sF sA2 sF2; revert f; decide))
  have w3 : v_W nw (Sf j ne nl i l S2).2 = (v_W nw S.2).filter (fun x => x.1 != nI j) := by
    rw [w0, eq_comm, List.filter_eq_self]
    intro x hx
    obtain ⟨u, o, a1, a2, a3, a4, _⟩ := k6 x hx
    rw [bne_iff_ne]
    intro e
    rw [a1, i_eq (by omega) (by omega)] at e
    subst e
    rw [hs] at a4
    exact absurd a4 (by decide)
  have r1 : rw_eq nr S.2 (Sf j ne nl i l S2).2 := fun q hq => by
    have := sr2 q hq
    rw [f3 _ (by decide), f3 _ (by decide), f3 _ (by decide), f3 _ (by decide), f3 _ (by decide), f3 _ (by decide), f3 _ (by decide), f3 _ (by decide)] at this
    exact this
  refine ⟨nl', l1, l2, l3, w3, ?_⟩
  have eO : (Sf j ne nl i l S2).2 61 = va_up (S.2 61) (ne + 1) (nI j) := (sA2 _ (by decide) (by decide) (by decide)).trans f4
  have eN : (Sf j ne nl i l S2).2 58 = va_up (S.2 58) j (nI (ne + 1)) := (sA2 _ (by decide) (by decide) (by decide)).trans f5
  have eE : (Sf j ne nl i l S2).1 60 = nI (ne + 1) := (sF2 _ (by decide)).trans f2
  have f6' : elS 40 n S.2 (Sf j ne nl i l S2).2 := ⟨fun q hq => by rw [sA2 _ (by decide) (by decide) (by decide), sA2 _ (by decide) (by decide) (by decide), sA2 _ (by decide) (by decide) (by decide)]; exact f6.1 q hq, fun q hq => by rw [sA2 _ (by decide) (by decide) (by decide)]; exact f6.2 q hq⟩
  have f7' : w_sz (Sf j ne nl i l S2).2 := fun x hx => by rw [sA2 _ (by decide) (by decide) (by decide)]; exact f7 x hx
  have f8' : w_01 40 ((Sf j ne nl i l S2).2 101) := by rw [sA2 _ (by decide) (by decide) (by decide)]; exact f8
  have f9' : I_ve n (ne + 1) (Sf j ne nl i l S2) := f9.cg (sA2 _ (by decide) (by decide) (by decide)) (sA2 _ (by decide) (by decide) (by decide)) (sA2 _ (by decide) (by decide) (by decide)) (sA2 _ (by decide) (by decide) (by decide)) (sA2 _ (by decide) (by decide) (by decide))
  rw [f1 _ (by decide), f1 _ (by decide), f1 _ (by decide)] at sff
  clear sA2 sF2 sr2 f6 f7 f8 f9
  generalize Sf j ne nl i l S2 = S3 at *
  have und : ∀ u, u ≠ j → (undw S3.2 u ↔ undw S.2 u) := fun u hne => by unfold undw; rw [ss1, up_n hne]
  have undt : ¬ undw S3.2 j := by unfold undw; rw [ss1, up_s]; decide
  have undi : ∀ u, undw S3.2 u → u ≠ j ∧ undw S.2 u := fun u h => by
    have hne : u ≠ j := fun e => undt (e ▸ h)
    exact ⟨hne, (und u hne).mp h⟩
  have st2 : ∀ u v : _, v ≠ (3 : Int32) → S3.2 47 u = v → u ≠ j ∧ S.2 47 u = v := fun u v hv e => by
    have hne : u ≠ j := fun e2 => by rw [e2, ss1, up_s] at e; exact hv e.symm
    rw [ss1, up_n hne] at e
    exact ⟨hne, e⟩
  have ne9 : ∀ u, u ≤ b → u ≠ j → ¬ nI u = nI j := fun u hb hne e => hne (by rw [i_eq (by omega) (by omega)] at e; exact e)
  have sA' : ∀ f, f ∉ [17, 18, 19, 20, 21, 22, 23, 24, 73, 74, 75, 76, 77, 78, 79, 59, 47, 46, 61, 58, 100, 101, 9, 10, 11, 12, 97, 98, 99] → S3.2 f = S.2 f := fun f hf => sA f (fun z => hf (by clear hf; revert f; decide)) (fun z => hf (by clear hf; revert f; decide)) (fun z => hf (by clear hf; revert f; decide)) (fun z => hf (by clear hf; revert f; decide))
  have ar' : ∀ q, ar S3.2 q = ar S.2 q := fun q => by unfold ar; rw [sA' _ (by decide)]
  have cw0 : ∀ q, q ≤ nr → y_cw (S3.2 17) 4 0 q = y_cw (S.2 17) 4 0 q := fun q hq => y_cw_cg q 0 (fun x _ h => (r1 x (by omega)).1)
  refine ⟨?_, ?_, ?_, ?_, f9', ?_, ?_, fun u u1 u2 hin => ?_⟩
  · refine hL.cgE sr1 (by omega) r1 (fun q q1 q2 => ?_) (sF _ (by decide) (by decide)) ⟨sA' _ (by decide), sA' _ (by decide), sA' _ (by decide), sA' _ (by decide), sA' _ (by decide), sA' _ (by decide), sA' _ (by decide), sA' _ (by decide), sA' _ (by decide)⟩ (sA' _ (by decide)) (sA' _ (by decide)) (sA' _ (by decide)) (sA' _ (by decide)) (fun o ho => (f6'.1 o (by omega)).2.1) (fun o ho => (f6'.1 o (by omega)).2.2) f7' (fun u u1 u2 _ => rfl) (fun u u1 u2 _ => ⟨by rw [sA' _ (by decide)], by rw [sA' _ (by decide)]⟩) (fun u u1 u2 => ⟨fun z => (undi u z).2, fun z => ?_⟩)
    · have eq : q = nr := by omega
      subst eq
      refine ⟨⟨fun z => ?_, fun z => ?_, fun _ => ⟨j, sr3.2.1, h1, h2⟩⟩, by rw [sr3.1]; decide⟩
      · rw [sr3.1] at z; exact absurd z (by decide)
      · rw [sr3.1] at z; exact absurd z (by decide)
    · by_cases cu : u = j
      · subst cu; exact Or.inl hu
      · rw [ss1, up_n cu] at z; exact Or.inr z
  · refine ⟨d1, (sF _ (by decide) (by decide)).trans d2, fun u u1 u2 => ?_, fun u u1 u2 => ?_, ss3, by omega, fun q hq => ?_, ?_, fun u => ?_, Or.inl rfl, fun u u1 u2 hin => ?_⟩
    · obtain ⟨st, lv, m, q, a1, a2, a3, a4, a5, a6, a7, a8, a9, b1, bs, b2⟩ := d3 u u1 u2
      by_cases hne : u = j
      · subst hne
        have lv0 : lv = 0 := by rw [hlv, show (0 : Int32) = nI 0 from rfl, i_eq (by omega) (by omega)] at a4; omega
        exact ⟨3, 0, m, q, by rw [ss1, up_s]; rfl, by omega, by omega, by rw [sA' _ (by decide)]; exact hlv, by omega, fun _ => rfl, by rw [sA' _ (by decide)]; exact a7, a8, by rw [sA' _ (by decide)]; exact a9, b1, bs, fun v v1 v2 => by omega⟩
      · refine ⟨st, lv, m, q, by rw [ss1, up_n hne]; exact a1, a2, a3, by rw [sA' _ (by decide)]; exact a4, a5, a6, by rw [sA' _ (by decide)]; exact a7, a8, by rw [sA' _ (by decide)]; exact a9, b1, bs, fun v v1 v2 => ?_⟩
        rw [sA' _ (by decide)]
        exact b2 v v1 v2
    · have hne : u ≠ j := by omega
      obtain ⟨z1, z2, z3, z4, z5, z6, z7⟩ := d4 u u1 u2
      exact ⟨by rw [ss1, up_n hne]; exact z1, by rw [sA' _ (by decide)]; exact z2, by rw [sA' _ (by decide)]; exact z3, by rw [sA' _ (by decide)]; exact z4, by rw [sA' _ (by decide)]; exact z5, by rw [sA' _ (by decide)]; exact z6, by rw [sA' _ (by decide)]; exact z7⟩
    · rcases sv2 q hq with e | e
      · rw [e]; exact d7 q (by omega)
      · rw [e]; exact d7 (q + 1) (by omega)
    · rw [sv1]; exact d8.sublist (List.eraseIdx_sublist _ _)
    · rw [sv1, mem_er nd hi, d9 u]
      constructor
      · rintro ⟨⟨z1, z2, z3⟩, z4⟩; exact ⟨z1, z2, (und u z4).mpr z3⟩
      · rintro ⟨z1, z2, z3⟩; exact ⟨⟨z1, z2, (undi u z3).2⟩, (undi u z3).1⟩
    · rw [sA' 67 (by decide), sA' 68 (by decide), sA' 71 (by decide)]
      refine d11 u u1 u2 ?_
      rcases hin with z | z
      · exact Or.inl (st2 u 2 (by decide) z).2
      · exact Or.inr z
  · obtain ⟨e1, e2, e3, e4, e5, e6, e7⟩ := hE'
    refine ⟨eE, neb, ?_, fun e he => ?_, fun u u1 u2 hst => ?_, fun ρ hρ hw => ?_, fun u u1 u2 hst => ?_⟩
    · rw [y_cw_s, Nat.zero_add, if_pos sr3.1, cw0 nr (Nat.le_refl _), e3]
    · by_cases ce : e = ne
      · subst ce
        refine ⟨j, nr, by rw [eO, up_s], h1, h2, by rw [ss1, up_s], by rw [eN, up_s], by rw [ss2, up_s], by omega, sr3.1, sr3.2.1, (cw0 nr (Nat.le_refl _)).trans e3, fun q hq => ?_⟩
        rw [ar']
        exact ((hch.2.2.2.1 q hq).2.2.1)
      · obtain ⟨u, ρ, a1, a2, a3, a4, a5, a6, a7, a8, a9, b1, b2⟩ := e4 e (by omega)
        have hne : u ≠ j := fun z => by subst z; rw [hs] at a4; exact absurd a4 (by decide)
        obtain ⟨q1, q2, _⟩ := r1 ρ a7
        exact ⟨u, ρ, by rw [eO, up_n (by omega)]; exact a1, a2, a3, by rw [ss1, up_n hne]; exact a4, by rw [eN, up_n hne]; exact a5, by rw [ss2, up_n hne]; exact a6, by omega, by rw [q1]; exact a8, by rw [q2]; exact a9, (cw0 ρ (by omega)).trans b1, fun q hq => by rw [ar']; exact b2 q hq⟩
    · by_cases cu : u = j
      · subst cu; exact ⟨ne, by omega, by rw [eO, up_s]⟩
      · rw [ss1, up_n cu] at hst
        obtain ⟨e, z1, z2⟩ := e5 u u1 u2 hst
        exact ⟨e, by omega, by rw [eO, up_n (by omega)]; exact z2⟩
    · by_cases cρ : ρ = nr
      · subst cρ
        rw [cw0 ρ (Nat.le_refl _), e3, eO, up_s]; exact sr3.2.1.symm
      · obtain ⟨q1, q2, _⟩ := r1 ρ (by omega)
        rw [q1] at hw
        have lt : y_cw (S.2 17) 4 0 ρ < ne := by
          have m1 := y_cw_mono (f := S.2 17) (w := 4) (i := 0) (show ρ + 1 ≤ nr by omega)
          rw [y_cw_s, Nat.zero_add, if_pos hw, e3] at m1
          omega
        rw [cw0 ρ (by omega), eO, up_n (by omega), q2]
        exact e6 ρ (by omega) hw
    · have hne : u ≠ j := fun z => hst (by subst z; rw [ss1, up_s])
      rw [ss1, up_n hne] at hst
      rw [eN, up_n hne]
      exact e7 u u1 u2 hst
  · have memL : ∀ x, x ∈ v_L nl' S3.2 ↔ x ∈ v_L nl S.2 ∧ x.1 ≠ nI j := fun x => by rw [l3, List.mem_filter, bne_iff_ne]
    have memW : ∀ x, x ∈ v_W nw S3.2 ↔ x ∈ v_W nw S.2 ∧ x.1 ≠ nI j := fun x => by rw [w3, List.mem_filter, bne_iff_ne]
    have eso := sA' 4 (by decide)
    refine ⟨l2, (sF _ (by decide) (by decide)).trans k2, by omega, ?_, fun x hx => ?_, fun x hx => ?_, ?_, fun u u1 u2 z => ?_, fun x hx y hy => ?_, ?_, fun u u1 u2 z => ?_, ⟨fun x hx y hy => kq x ((memW x).mp hx).1 y ((memL y).mp hy).1, G, fun u u1 u2 z => ?_⟩, fun u u1 u2 z p q hp hkk => ?_⟩
    · unfold w_ah; rw [sA' _ (by decide)]; exact k4
    · obtain ⟨x1, x2⟩ := (memL x).mp hx
      obtain ⟨u, o, v, a1, a2, a3, a4, a5, a6, a7, a8, a9, b0, b1, b2⟩ := k5 x x1
      have hne : u ≠ j := fun e => x2 (by rw [a1, e])
      refine ⟨u, o, v, a1, a2, a3, (und u hne).mpr a4, a5, a6, a7, a8, a9, b0, by rw [sA' _ (by decide)]; exact b1, ?_⟩
      rcases b2 with b2 | b2
      · exact Or.inl b2
      · refine Or.inr ⟨b2.1, ?_⟩
        rcases b2.2 with z | z
        · exact Or.inl (by rw [ss1, up_n hne]; exact z)
        · exact Or.inr z
    · obtain ⟨x1, x2⟩ := (memW x).mp hx
      obtain ⟨u, o, a1, a2, a3, a4, a5, a6, a7, a8, a9, b1, b2⟩ := k6 x x1
      have hne : u ≠ j := fun e => x2 (by rw [a1, e])
      refine ⟨u, o, a1, a2, a3, by rw [ss1, up_n hne]; exact a4, a5, a6, a7, a8, a9, ?_, ?_⟩
      · unfold dp at b1 ⊢
        rw [sA' 68 (by decide), sA' 71 (by decide), sA' 7 (by decide), sA' 67 (by decide), sA' 69 (by decide)]
        exact b1
      · unfold dp o_1 at b2 ⊢
        rw [sA' 68 (by decide), sA' 71 (by decide), sA' 7 (by decide), sA' 67 (by decide), sA' 70 (by decide)]
        exact b2
    · rw [w3]; exact k7.sublist (List.filter_sublist.map _)
    · obtain ⟨q1, q2⟩ := st2 u 2 (by decide) z
      obtain ⟨x, x1, x2⟩ := k8 u u1 u2 q2
      exact ⟨x, (memW x).mpr ⟨x1, by rw [x2]; exact ne9 u u2 q1⟩, x2⟩
    · rw [eso]; exact k9 x ((memL x).mp hx).1 y ((memL y).mp hy).1
    · rw [l3]; exact k10.filter _
    · obtain ⟨q1, q2⟩ := undi u z
      have := k11 u u1 u2 q2
      have e1 : rem7 S3.2 0 u = rem7 S.2 0 u := by
        unfold rem7 dp o_1
        rw [ss1, up_n q1, sA' 71 (by decide), sA' 7 (by decide), sA' 68 (by decide), sA' 67 (by decide), sA' 70 (by decide)]
      have e2 : (xl u (v_L nl' S3.2)).length ≤ (xl u (v_L nl S.2)).length := by
        rw [l3]; unfold xl; exact (List.filter_sublist.filter _).length_le
      rw [e1, sA' 55 (by decide)]
      omega
    · obtain ⟨q1, q2⟩ := undi u z
      obtain ⟨j1, j2, j3, j4⟩ := k13 u u1 u2 q2
      refine ⟨by rw [sA' 55 (by decide)]; exact j1, fun x hx => j2 x ((memL x).mp hx).1, fun x hx => j3 x ((memW x).mp hx).1, fun hin => ?_⟩
      unfold kd_1 kd_2 at j4 ⊢
      rw [sA' 68 (by decide), sA' 67 (by decide), sA' 70 (by decide), sA' 69 (by decide)]
      refine j4 ?_
      rcases hin with y | y
      · exact Or.inl (st2 u 2 (by decide) y).2
      · exact Or.inr y
    · obtain ⟨q1, q2⟩ := undi u z
      rw [sA' 36 (by decide)] at hkk
      obtain ⟨x, x1, x2, x3, x4, x5, x6, x9, v, v4, x7, x8⟩ := k12 u u1 u2 q2 p q hp hkk
      refine ⟨x, (memL x).mpr ⟨x1, by rw [x2]; exact ne9 u u2 q1⟩, x2, by rw [sA' 35 (by decide)]; exact x3, x4, by rw [sA' 36 (by decide)]; exact x5, by rw [sA' 37 (by decide)]; exact x6, x9, v, v4, x7, ?_⟩
      rw [sA' 54 (by decide)]; exact x8
  · obtain ⟨m1, m2, m3, m4, ⟨f, hf, ef⟩, m6, m7, m8, m9, m10⟩ := hM
    refine ⟨(sF _ (by decide) (by decide)).trans m1, (sF _ (by decide) (by decide)).trans m2, (sF _ (by decide) (by decide)).trans m3, by rw [sF _ (by decide) (by decide)]; exact m4, ?_, by rw [sF _ (by decide) (by decide)]; exact m6, f8', by rw [sF _ (by decide) (by decide)]; exact m8, by rw [sF _ (by decide) (by decide)]; exact m9, by rw [sF _ (by decide) (by decide)]; exact m10⟩
    rcases sff with ⟨_, q1, _⟩ | ⟨_, q1, _⟩
    · exact ⟨f, by omega, q1.trans ef⟩
    · exact ⟨nr + 1, by omega, q1⟩
  · have ne0 : ∀ u, u ∈ (v_lv l S.2).eraseIdx i → u ≠ j := fun u hm => ((mem_er nd hi).mp hm).2
    have hsum := sum_er (f := fun t => (S.2 52 t).toNatClampNeg + 1 + (if S.2 47 t = 2 ∨ t = 0 then 2 else 0)) hi
    have s1 : ((v_lv (l - 1) S3.2).map (fun t => (S3.2 52 t).toNatClampNeg + 1 + (if S3.2 47 t = 2 ∨ t = 0 then 2 else 0))).sum = (((v_lv l S.2).eraseIdx i).map (fun t => (S.2 52 t).toNatClampNeg + 1 + (if S.2 47 t = 2 ∨ t = 0 then 2 else 0))).sum := by
      rw [sv1]; exact sum_cg (fun u hm => by rw [sA' 52 (by decide), ss1, up_n (ne0 u hm)])
    have s2 : ((v_lv (l - 1) S3.2).map (fun t => if S3.2 47 t = 2 ∨ t = 0 then 1 else 0)).sum = (((v_lv l S.2).eraseIdx i).map (fun t => if S.2 47 t = 2 ∨ t = 0 then 1 else 0)).sum := by
      rw [sv1]; exact sum_cg (fun u hm => by rw [ss1, up_n (ne0 u hm)])
    have s3 : ((v_lv (l - 1) S3.2).map (fun t => (S3.2 55 t).toNatClampNeg)).sum = (((v_lv l S.2).eraseIdx i).map (fun t => (S.2 55 t).toNatClampNeg)).sum := by
      rw [sv1, sA' 55 (by decide)]
    have s4 : ((v_lv (l - 1) S3.2).map (fun t => if S3.2 47 t = 2 then 11 - (S3.2 71 t).toNatClampNeg else if t = 0 then 12 - (S3.2 71 t).toNatClampNeg else 0)).sum = (((v_lv l S.2).eraseIdx i).map (fun t => if S.2 47 t = 2 then 11 - (S.2 71 t).toNatClampNeg else if t = 0 then 12 - (S.2 71 t).toNatClampNeg else 0)).sum := by
      rw [sv1]; exact sum_cg (fun u hm => by rw [ss1, up_n (ne0 u hm), sA' 71 (by decide)])
    have t2 := sum_er (f := fun t => if S.2 47 t = 2 ∨ t = 0 then 1 else 0) hi
    have t3 := sum_er (f := fun t => (S.2 55 t).toNatClampNeg) hi
    have t4 := sum_er (f := fun t => if S.2 47 t = 2 then 11 - (S.2 71 t).toNatClampNeg else if t = 0 then 12 - (S.2 71 t).toNatClampNeg else 0) hi
    have eq5 := sF 66 (by decide) (by decide)
    refine ⟨by omega, ?_, p3, ?_, ?_, ?_, by rw [eq5]; exact p7⟩
    · rw [s1]; omega
    · rw [s2]; omega
    · rw [s3]; omega
    · rw [s4, eq5]; omega
  · rw [sA' 67 (by decide), sA' 68 (by decide), sA' 69 (by decide), sA' 70 (by decide)]
    refine hX u u1 u2 ?_
    rcases hin with z | z
    · exact Or.inl (st2 u 2 (by decide) z).2
    · exact Or.inr z
end UL
