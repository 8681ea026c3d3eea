/-! act: it is asked for, the reference's invariants -/
section TS
variable {S S1 : m_S} {n b l nl nw nr na ne c T t o k : Nat} {ch : Nat → List Nat} {a bb : Int32}
def fp_aq : List Nat := [55, 67, 68, 69, 70, 71, 47] ++ fp_N
/-- it is asked for: what changes -/
def askd (t o k : Nat) (a bb : Int32) (S S1 : m_S) : Prop := (∀ f, f ∉ fp_aq → S1.2 f = S.2 f) ∧ (∀ f, f ≠ 63 → f ≠ 87 → S1.1 f = S.1 f) ∧ S1.1 63 = S.1 63 + 1 ∧ S1.2 55 = va_up (S.2 55) t (S.2 55 t + 1) ∧ S1.2 67 = va_up (S.2 67) t (nI o) ∧ S1.2 68 = va_up (S.2 68) t (nI k) ∧ S1.2 69 = va_up (S.2 69) t a ∧ S1.2 70 = va_up (S.2 70) t bb ∧ S1.2 71 = va_up (S.2 71) t 0 ∧ S1.2 47 = S.2 47
theorem ask_st (hob : R_ob n S.2) (st : S.2 47 t = 1) (ho : o < n) (hk : k < 22) (har : ar_R n o k a bb) (hsl : S.2 4 o = 7 → S.2 9 o = -1 ∨ ∃ p, p < n ∧ S.2 9 o = nI p) :
    ∃ S1, r_needs t ((y_ask t (nI o) (nI k) a bb S).1, va_up (y_ask t (nI o) (nI k) a bb S).2 47 (va_up ((y_ask t (nI o) (nI k) a bb S).2 47) t 1)) S1 ∧ nds t 0 S1 ∧ askd t o k a bb S S1 := by
  have eS : (y_ask t (nI o) (nI k) a bb S).2 47 = S.2 47 := by
    unfold y_ask; dsimp only
    rw [up_n (by decide), up_n (by decide), up_n (by decide), up_n (by decide), up_n (by decide), up_n (by decide)]
  have e1 : va_up (S.2 47) t 1 = S.2 47 := funext fun u => by
    by_cases z : u = t
    · subst z; rw [up_s]; exact st.symm
    · rw [up_n z]
  have fA : ∀ f, f ∉ fp_aq → (va_up (y_ask t (nI o) (nI k) a bb S).2 47 (va_up ((y_ask t (nI o) (nI k) a bb S).2 47) t 1)) f = S.2 f := fun f h => by
    rw [up_n (nmem h (by decide))]
    unfold y_ask
    dsimp only
    rw [up_n (nmem h (by decide)), up_n (nmem h (by decide)), up_n (nmem h (by decide)), up_n (nmem h (by decide)), up_n (nmem h (by decide)), up_n (nmem h (by decide))]
  have fN : ∀ f, f ∉ fp_aq → f ∉ fp_N := fun f h z => h (by unfold fp_aq; exact List.mem_append_right _ z)
  have hob1 : R_ob n (va_up (y_ask t (nI o) (nI k) a bb S).2 47 (va_up ((y_ask t (nI o) (nI k) a bb S).2 47) t 1)) := by
    unfold R_ob at hob ⊢
    rw [fA 4 (by decide), fA 7 (by decide), fA 5 (by decide)]
    exact hob
  have r1 : (va_up (y_ask t (nI o) (nI k) a bb S).2 47 (va_up ((y_ask t (nI o) (nI k) a bb S).2 47) t 1)) 55 = va_up (S.2 55) t (S.2 55 t + 1) := by
    rw [up_n (by decide)]; unfold y_ask; dsimp only; rw [up_n (by decide), up_n (by decide), up_n (by decide), up_n (by decide), up_n (by decide), up_s]
  have r2 : (va_up (y_ask t (nI o) (nI k) a bb S).2 47 (va_up ((y_ask t (nI o) (nI k) a bb S).2 47) t 1)) 67 = va_up (S.2 67) t (nI o) := by
    rw [up_n (by decide)]; unfold y_ask; dsimp only; rw [up_n (by decide), up_n (by decide), up_n (by decide), up_n (by decide), up_s]
  have r3 : (va_up (y_ask t (nI o) (nI k) a bb S).2 47 (va_up ((y_ask t (nI o) (nI k) a bb S).2 47) t 1)) 68 = va_up (S.2 68) t (nI k) := by
    rw [up_n (by decide)]; unfold y_ask; dsimp only; rw [up_n (by decide), up_n (by decide), up_n (by decide), up_s]
  have r4 : (va_up (y_ask t (nI o) (nI k) a bb S).2 47 (va_up ((y_ask t (nI o) (nI k) a bb S).2 47) t 1)) 69 = va_up (S.2 69) t a := by
    rw [up_n (by decide)]; unfold y_ask; dsimp only; rw [up_n (by decide), up_n (by decide), up_s]
  have r5 : (va_up (y_ask t (nI o) (nI k) a bb S).2 47 (va_up ((y_ask t (nI o) (nI k) a bb S).2 47) t 1)) 70 = va_up (S.2 70) t bb := by
    rw [up_n (by decide)]; unfold y_ask; dsimp only; rw [up_n (by decide), up_s]
  have r6 : (va_up (y_ask t (nI o) (nI k) a bb S).2 47 (va_up ((y_ask t (nI o) (nI k) a bb S).2 47) t 1)) 71 = va_up (S.2 71) t 0 := by
    rw [up_n (by decide)]; unfold y_ask; dsimp only; rw [up_s]
  have r7 : (va_up (y_ask t (nI o) (nI k) a bb S).2 47 (va_up ((y_ask t (nI o) (nI k) a bb S).2 47) t 1)) 47 = S.2 47 := by
    rw [up_s, eS, e1]
  have f1 : ∀ f, f ≠ 63 → (y_ask t (nI o) (nI k) a bb S).1 f = S.1 f := fun f h => by unfold y_ask; dsimp only; rw [up_n h]
  have f2 : (y_ask t (nI o) (nI k) a bb S).1 63 = S.1 63 + 1 := by unfold y_ask; dsimp only; rw [up_s]
  generalize hA : va_up (y_ask t (nI o) (nI k) a bb S).2 47 (va_up ((y_ask t (nI o) (nI k) a bb S).2 47) t 1) = A0 at *
  have hak : askOk n A0 t := ⟨o, k, by rw [r2, up_s], ho, by rw [r3, up_s], hk, by rw [r4, r5, up_s, up_s]; exact har, by rw [fA 4 (by decide), fA 9 (by decide)]; exact hsl⟩
  obtain ⟨S1, g1, g2, g3, g4⟩ := nds_ok (S := ((y_ask t (nI o) (nI k) a bb S).1, A0)) (S0 := ((y_ask t (nI o) (nI k) a bb S).1, A0)) (q := 0) hob1 hak (fun _ _ => rfl) (by dsimp only; rw [r6, up_s]; rfl) (by omega)
  dsimp only at g3 g4
  exact ⟨S1, g1, g2, fun f h => by rw [g3 f (fN f h), fA f h], fun f z1 z2 => by rw [g4 f z2, f1 f z1], by rw [g4 _ (by decide), f2], by rw [g3 _ (by decide), r1], by rw [g3 _ (by decide), r2], by rw [g3 _ (by decide), r3], by rw [g3 _ (by decide), r4], by rw [g3 _ (by decide), r5], by rw [g3 _ (by decide), r6], by rw [g3 _ (by decide), r7]⟩
theorem I_ask (hI : I_all n b l nl nw nr na ne ch 0 c T S) (hc : c + 1 ≤ 512) (h1 : 1 ≤ t) (h2 : t ≤ b) (st : S.2 47 t = 1) (ho : o < n) (hk : k < 22) (har : ar_R n o k a bb) (hlim : ¬ S.1 1 ≤ S.2 55 t) (hall : ¬ S.1 63 = 700) (hs : askd t o k a bb S S1) : I_all n b l nl nw nr na ne ch t (c + 1) T S1 ∧ I_cu t nl S1.2 := by
  obtain ⟨hL, hD, hE, hK, hV, hM, hP, hX⟩ := hI
  obtain ⟨fA, fF, e0, e1, e2, e3, e4, e5, e6, e7⟩ := hs
  obtain ⟨d1, d2, d3, d4, d5, d6, d7, d8, d9, d10, d11⟩ := hD
  obtain ⟨s, lv, m, x, a1, a2, a3, a4, a5, a6, a7, a8, a9, b1, bs, b2⟩ := d3 t h1 h2
  have n40 := hL.2.2.1.1
  have xl : x < 200 := by
    obtain ⟨q, q1, q2, q3⟩ := hM.2.2.2.2.2.1
    rw [q3, a9, i_le (by omega) (by omega)] at hlim
    omega
  have as1 : S.2 55 t + 1 = nI (x + 1) := by rw [a9, i_a1]
  have rwe : rw_eq nr S.2 S1.2 := fun j _ => ⟨by rw [fA _ (by decide)], by rw [fA _ (by decide)], by rw [fA _ (by decide)], by rw [fA _ (by decide)], by rw [fA _ (by decide)], by rw [fA _ (by decide)], by rw [fA _ (by decide)], by rw [fA _ (by decide)]⟩
  have ace : ac_eq S.2 S1.2 := ⟨fA _ (by decide), fA _ (by decide), fA _ (by decide), fA _ (by decide), fA _ (by decide), fA _ (by decide), fA _ (by decide), fA _ (by decide), fA _ (by decide)⟩
  have un : ∀ u, undw S1.2 u ↔ undw S.2 u := fun u => by unfold undw; rw [e7]
  have lve : v_lv l S1.2 = v_lv l S.2 := by unfold v_lv; rw [fA _ (by decide)]
  have t0 : ¬ t = 0 := by omega
  have st2 : ¬ S.2 47 t = 2 := by rw [st]; decide
  have inn : ∀ u, u ≠ t → 1 ≤ u → (inp S1.2 t u → inp S.2 0 u) := fun u hne _ z => by
    unfold inp at z ⊢
    rw [e7] at z
    exact z.elim Or.inl (fun y => absurd y hne)
  have tlv : t ∈ v_lv l S.2 := (d9 t).mpr ⟨h1, h2, Or.inl st⟩
  have nd := pw_nd d8
  have vl : v_L nl S1.2 = v_L nl S.2 := v_L_cg (fun f hf => fA f (by revert f; decide))
  have vw : v_W nw S1.2 = v_W nw S.2 := v_W_cg (fun f hf => fA f (by revert f; decide))
  have edp : ∀ o, dp S1.2 o = dp S.2 o := fun o => by unfold dp; rw [fA _ (by decide)]
  have eo1 : ∀ u, u ≠ t → o_1 S1.2 u = o_1 S.2 u := fun u hne => by unfold o_1; rw [e2, e3, e5, up_n hne, up_n hne, up_n hne]
  have dp5 : ∀ o', o' < n → dp S.2 o' ≤ 5 := fun o' h => (dp_ok hL.2.2.1 h).2
  have o1n : o_1 S1.2 t < n := by
    unfold o_1
    rw [e2, e3, e5, up_s, up_s, up_s]
    by_cases c19 : nI k = 19
    · rw [if_pos c19]
      have : min (nI o).toNatClampNeg bb.toNatClampNeg ≤ (nI o).toNatClampNeg := Nat.min_le_left _ _
      rw [i_cl (by omega)] at this ⊢
      omega
    · rw [if_neg c19, i_cl (by omega)]; exact ho
  refine ⟨⟨?_, ⟨d1, (fF _ (by decide) (by decide)).trans d2, fun u u1 u2 => ?_, fun u u1 u2 => ?_, (fF _ (by decide) (by decide)).trans d5, d6, fun i hi => by rw [fA _ (by decide)]; exact d7 i hi, by rw [lve]; exact d8, fun u => by rw [lve, d9 u, un u], Or.inr ⟨h1, h2, by rw [e7]; exact st⟩, fun u u1 u2 hin => ?_⟩, ?_, ?_, hV.cg (fA _ (by decide)) (fA _ (by decide)) (fA _ (by decide)) (fA _ (by decide)) (fA _ (by decide)), ?_, ?_, fun u u1 u2 hin => ?_⟩, fun k' q' hk' ek' eq' hq' hd => ?_⟩
  · exact hL.cg ((fF _ (by decide) (by decide)).trans hL.1) (Nat.le_refl _) rwe (fun j j1 j2 => by omega) (fF _ (by decide) (by decide)) ace (fA _ (by decide)) (fA _ (by decide)) (fA _ (by decide)) (fA _ (by decide)) (fA _ (by decide)) (fA _ (by decide)) (fun _ _ _ _ => rfl) (fun u _ _ _ => ⟨by rw [fA _ (by decide)], by rw [fA _ (by decide)]⟩) (fun u _ _ => ⟨(un u).mp, fun z => Or.inr (by rw [e7] at z; exact z)⟩)
  · by_cases e : u = t
    · subst e
      exact ⟨s, lv, m, x + 1, by rw [e7]; exact a1, a2, a3, by rw [fA _ (by decide)]; exact a4, a5, a6, by rw [fA _ (by decide)]; exact a7, a8, by rw [e1, up_s]; exact as1, by omega, bs, fun v v1 v2 => by rw [fA _ (by decide)]; exact b2 v v1 v2⟩
    · obtain ⟨s', lv', m', x', c1, c2, c3, c4, c5, c6, c7, c8, c9, g1, bs', g2⟩ := d3 u u1 u2
      exact ⟨s', lv', m', x', by rw [e7]; exact c1, c2, c3, by rw [fA _ (by decide)]; exact c4, c5, c6, by rw [fA _ (by decide)]; exact c7, c8, by rw [e1, up_n e]; exact c9, g1, bs', fun v v1 v2 => by rw [fA _ (by decide)]; exact g2 v v1 v2⟩
  · have ne : u ≠ t := by omega
    obtain ⟨z1, z2, z3, z4, z5, z6, z7⟩ := d4 u u1 u2
    exact ⟨by rw [e7]; exact z1, by rw [fA _ (by decide)]; exact z2, by rw [fA _ (by decide)]; exact z3, by rw [fA _ (by decide)]; exact z4, by rw [e1, up_n ne]; exact z5, by rw [fA _ (by decide)]; exact z6, by rw [fA _ (by decide)]; exact z7⟩
  · by_cases e : u = t
    · subst e
      exact ⟨o, k, 0, by rw [e2, up_s], by rw [e3, up_s], hk, by rw [e6, up_s]; rfl, by omega⟩
    · obtain ⟨o', k', q', c1, c2, c3, c4, c5⟩ := d11 u u1 u2 (inn u e u1 hin)
      exact ⟨o', k', q', by rw [e2, up_n e]; exact c1, by rw [e3, up_n e]; exact c2, c3, by rw [e6, up_n e]; exact c4, c5⟩
  · exact hE.cg (Nat.le_refl _) rwe (fun j j1 j2 => by omega) (fF _ (by decide) (by decide)) (fA _ (by decide)) (fA _ (by decide)) (fA _ (by decide)) (fun _ _ _ _ => rfl) (fun u _ _ => by rw [fA _ (by decide)]) (fun u _ _ => by rw [e7])
  · obtain ⟨k1, k2, k3, k4, k5, k6, k7, k8, k9, k10, k11, ⟨kq, G, k13⟩, k12⟩ := hK
    refine ⟨(fF _ (by decide) (by decide)).trans k1, (fF _ (by decide) (by decide)).trans k2, k3, by unfold w_ah; rw [fA _ (by decide)]; exact k4, fun y hy => ?_, fun y hy => ?_, by rw [vw]; exact k7, fun u u1 u2 z => ?_, by rw [vl, fA 4 (by decide)]; exact k9, by rw [vl]; exact k10, fun u u1 u2 z => ?_, ⟨by rw [vl, vw]; exact kq, fun u => if u = t then n3 (y_lk (kd_1 S1.2 t) (S1.2 69 t)) (kd_1 S1.2 t) (S1.2 69 t) :: n3 (y_lk (kd_2 S1.2 t) (S1.2 69 t)) (kd_2 S1.2 t) (S1.2 69 t) :: G t else G u, fun u u1 u2 z => ?_⟩, ?_⟩
    · rw [vl] at hy
      obtain ⟨u, o', v, c1, c2, c3, c4, c5, c6, c7, c8, c9, g1, g2, g3⟩ := k5 y hy
      refine ⟨u, o', v, c1, c2, c3, (un u).mpr c4, c5, c6, c7, c8, c9, g1, by rw [fA _ (by decide)]; exact g2, g3.imp id (fun z => ⟨z.1, ?_⟩)⟩
      rcases z.2 with w | w
      · exact Or.inl (by rw [e7]; exact w)
      · omega
    · rw [vw] at hy
      obtain ⟨u, o', c1, c2, c3, c4, c5, c6, c7, c8, c9, g1, g2⟩ := k6 y hy
      have hne : u ≠ t := fun e => st2 (by rw [← e]; exact c4)
      refine ⟨u, o', c1, c2, c3, by rw [e7]; exact c4, c5, c6, c7, c8, c9, ?_, ?_⟩
      · rw [edp, e3, e6, e2, e4, up_n hne, up_n hne, up_n hne, up_n hne]; exact g1
      · rw [eo1 u hne, edp (o_1 S.2 u), e6, e3, e2, up_n hne, up_n hne, up_n hne, edp]; exact g2
    · rw [vw]; exact k8 u u1 u2 (by rw [← e7]; exact z)
    · have q1 := k11 u u1 u2 ((un u).mp z)
      rw [vl, e1]
      by_cases e : u = t
      · subst e
        rw [up_s, as1, i_cl (by omega)]
        rw [a9, i_cl (by omega)] at q1
        have : rem7 S1.2 u u ≤ 7 := by
          unfold rem7
          rw [if_pos (Or.inr rfl)]
          rw [e6, up_s]
          split
          · omega
          · rename_i h
            exact absurd (Nat.zero_le _) h
        omega
      · rw [up_n e]
        have : rem7 S1.2 t u = rem7 S.2 0 u := by
          unfold rem7
          rw [eo1 u e, edp, e6, up_n e, e7]
          by_cases c : S.2 47 u = 2
          · rw [if_pos (Or.inl c), if_pos (Or.inl c)]
          · rw [if_neg (fun y => y.elim c e), if_neg (fun y => y.elim c (by omega))]
        rw [this]
        exact q1
    · obtain ⟨j1, j2, j3, j4⟩ := k13 u u1 u2 ((un u).mp z)
      rw [vl, vw, e1]
      dsimp only
      by_cases e : u = t
      · subst e
        rw [if_pos rfl, up_s, as1, i_cl (by omega)]
        rw [a9, i_cl (by omega)] at j1
        refine ⟨by simp only [List.length_cons]; omega, fun y hy z1 z2 => List.mem_cons_of_mem _ (List.mem_cons_of_mem _ (j2 y hy z1 z2)), fun y hy z1 z2 => List.mem_cons_of_mem _ (List.mem_cons_of_mem _ (j3 y hy z1 z2)), fun _ => ⟨List.mem_cons_self .., List.mem_cons_of_mem _ (List.mem_cons_self ..)⟩⟩
      · rw [if_neg e, up_n e]
        have q1 : kd_1 S1.2 u = kd_1 S.2 u := by unfold kd_1; rw [e2, e3, e5, up_n e, up_n e, up_n e]
        have q2 : kd_2 S1.2 u = kd_2 S.2 u := by unfold kd_2; rw [e2, e3, e5, up_n e, up_n e, up_n e]
        rw [q1, q2, e4, up_n e]
        exact ⟨j1, j2, j3, fun w => j4 (inn u e u1 w)⟩
    · intro u u1 u2 hu p i hp hkk
      rw [ace.2.2.1] at hkk
      rw [vl, ace.2.1, ace.2.2.1, ace.2.2.2.1, fA 54 (by decide)]
      exact k12 u u1 u2 ((un u).mp hu) p i hp hkk
  · obtain ⟨g1, g2, g3, g4, g5, g6, g7, g8, g9, q, q1, q2⟩ := hM
    refine ⟨(fF _ (by decide) (by decide)).trans g1, (fF _ (by decide) (by decide)).trans g2, (fF _ (by decide) (by decide)).trans g3, by rw [fF _ (by decide) (by decide)]; exact g4, by rw [fF _ (by decide) (by decide)]; exact g5, by rw [fF _ (by decide) (by decide)]; exact g6, by rw [fA _ (by decide)]; exact g7, by rw [fF _ (by decide) (by decide)]; exact g8, by rw [fF 16 (by decide) (by decide)]; exact g9, q + 1, ?_, by rw [e0, q2, i_a1]⟩
    have : q ≠ 700 := fun e => hall (by rw [q2, e]; rfl)
    omega
  · obtain ⟨p1, p2, p3, p4, p5, p6, p7⟩ := hP
    have ne0 : ∀ u ∈ v_lv l S.2, ¬ u = 0 := fun u hu e => by have := ((d9 u).mp hu).1; omega
    unfold I_po
    rw [lve, e7, fA 52 (by decide), fF 66 (by decide) (by decide)]
    have q1 := sum_up (t := t) (f := fun u => (S.2 52 u).toNatClampNeg + 1 + (if S.2 47 u = 2 ∨ u = 0 then 2 else 0)) (g := fun u => (S.2 52 u).toNatClampNeg + 1 + (if S.2 47 u = 2 ∨ u = t then 2 else 0)) nd tlv (fun u hu e => by
      by_cases c : S.2 47 u = 2
      · rw [if_pos (Or.inl c), if_pos (Or.inl c)]
      · rw [if_neg (fun z => z.elim c e), if_neg (fun z => z.elim c (ne0 u hu))])
    rw [if_pos (Or.inr rfl), if_neg (fun z => z.elim st2 t0)] at q1
    have q2 := sum_up (t := t) (f := fun u => if S.2 47 u = 2 ∨ u = 0 then 1 else 0) (g := fun u => if S.2 47 u = 2 ∨ u = t then 1 else 0) nd tlv (fun u hu e => by
      by_cases c : S.2 47 u = 2
      · rw [if_pos (Or.inl c), if_pos (Or.inl c)]
      · rw [if_neg (fun z => z.elim c e), if_neg (fun z => z.elim c (ne0 u hu))])
    rw [if_pos (Or.inr rfl), if_neg (fun z => z.elim st2 t0)] at q2
    have q3 := sum_up (t := t) (f := fun u => (S.2 55 u).toNatClampNeg) (g := fun u => (S1.2 55 u).toNatClampNeg) nd tlv (fun u hu e => by rw [e1, up_n e])
    have q3a : (S1.2 55 t).toNatClampNeg = x + 1 := by rw [e1, up_s, as1, i_cl (by omega)]
    have q3b : (S.2 55 t).toNatClampNeg = x := by rw [a9, i_cl (by omega)]
    rw [q3a, q3b] at q3
    have q4 := sum_up (t := t) (f := fun u => if S.2 47 u = 2 then 11 - (S.2 71 u).toNatClampNeg else if u = 0 then 12 - (S.2 71 u).toNatClampNeg else 0) (g := fun u => if S.2 47 u = 2 then 11 - (S1.2 71 u).toNatClampNeg else if u = t then 12 - (S1.2 71 u).toNatClampNeg else 0) nd tlv (fun u hu e => by
      rw [e6, up_n e]
      by_cases c : S.2 47 u = 2
      · rw [if_pos c, if_pos c]
      · rw [if_neg c, if_neg c, if_neg e, if_neg (ne0 u hu)])
    rw [if_neg st2, if_neg st2, if_pos rfl, if_neg t0] at q4
    exact ⟨p1, by omega, hc, by omega, by omega, by omega, p7⟩
  · by_cases e : u = t
    · subst e
      exact ⟨o, k, by rw [e2, up_s], ho, by rw [e3, up_s], hk, by rw [e4, e5, up_s, up_s]; exact har⟩
    · obtain ⟨o', k', c1, c2, c3, c4, c5⟩ := hX u u1 u2 (inn u e u1 hin)
      exact ⟨o', k', by rw [e2, up_n e]; exact c1, c2, by rw [e3, up_n e]; exact c3, c4, by rw [e4, e5, up_n e, up_n e]; exact c5⟩
  · rw [e6, up_s, show (0 : Int32) = nI 0 from rfl, i_eq (by omega) (by omega)] at eq'
    omega
end TS
