/-! a lock held, granted, waited for, woken: the reference's invariants -/
section SB
variable {S S' : m_S} {A : m_A} {n b l nl nl' nw nw' nr na ne t q q' lA lA' cur cur' c T : Nat} {s' : Int32} {ch : Nat → List Nat}
def fp_st : List Nat := fp_N ++ fp_L ++ fp_W ++ [71, 47]
def fp_sF : List Nat := [66, 87, 72, 80]
/-- one step of a deal's act: its state and its stage, locks, waits, needs -/
def stp (t q' : Nat) (s' : Int32) (S S' : m_S) : Prop := (∀ f, f ∉ fp_sF → S'.1 f = S.1 f) ∧ (∀ f, f ∉ fp_st → S'.2 f = S.2 f) ∧ S'.2 47 = va_up (S.2 47) t s' ∧ S'.2 71 = va_up (S.2 71) t (nI q')
theorem stp_und (h : stp t q' s' S S') (hs : s' = 1 ∨ s' = 2) (hu : undw S.2 t) (u : Nat) : (undw S'.2 u ↔ undw S.2 u) ∧ (S'.2 47 u = 3 ↔ S.2 47 u = 3) := by
  obtain ⟨_, _, h3, _⟩ := h
  unfold undw at hu ⊢
  rw [h3]
  by_cases e : u = t
  · subst e
    rw [up_s]
    refine ⟨⟨fun _ => hu, fun _ => hs⟩, fun z => ?_, fun z => ?_⟩
    · rcases hs with y | y <;> rw [y] at z <;> exact absurd z (by decide)
    · rcases hu with y | y <;> rw [y] at z <;> exact absurd z (by decide)
  · rw [up_n e]
    exact ⟨Iff.rfl, Iff.rfl⟩
theorem I_keep (hs : stp t q' s' S S') (h12 : s' = 1 ∨ s' = 2) (hu : undw S.2 t) : (I_lg n b nr na ch S → I_lg n b nr na ch S') ∧ (I_en b ne nr ch S → I_en b ne nr ch S') ∧ (I_ve n ne S → I_ve n ne S') ∧ (I_mi n nr S → I_mi n nr S') := by
  have un := stp_und hs h12 hu
  obtain ⟨hF, hA, hst, hsg⟩ := hs
  have rwe : rw_eq nr S.2 S'.2 := fun j _ => ⟨by rw [hA _ (by decide)], by rw [hA _ (by decide)], by rw [hA _ (by decide)], by rw [hA _ (by decide)], by rw [hA _ (by decide)], by rw [hA _ (by decide)], by rw [hA _ (by decide)], by rw [hA _ (by decide)]⟩
  have ace : ac_eq S.2 S'.2 := ⟨hA _ (by decide), hA _ (by decide), hA _ (by decide), hA _ (by decide), hA _ (by decide), hA _ (by decide), hA _ (by decide), hA _ (by decide), hA _ (by decide)⟩
  refine ⟨fun h => ?_, fun h => ?_, fun h => h.cg (hA _ (by decide)) (hA _ (by decide)) (hA _ (by decide)) (hA _ (by decide)) (hA _ (by decide)), fun h => h.cg (Nat.le_refl _) (fun f hf => hF f (by revert f; decide)) (hA _ (by decide))⟩
  · exact h.cg ((hF _ (by decide)).trans h.1) (Nat.le_refl _) rwe (fun j j1 j2 => by omega) (hF _ (by decide)) ace (hA _ (by decide)) (hA _ (by decide)) (hA _ (by decide)) (hA _ (by decide)) (hA _ (by decide)) (hA _ (by decide)) (fun _ _ _ _ => rfl) (fun u _ _ _ => ⟨by rw [hA _ (by decide)], by rw [hA _ (by decide)]⟩) (fun u _ _ => ⟨(un u).1.mp, fun z => Or.inr ((un u).2.mp z)⟩)
  · exact h.cg (Nat.le_refl _) rwe (fun j j1 j2 => by omega) (hF _ (by decide)) (hA _ (by decide)) (hA _ (by decide)) (hA _ (by decide)) (fun _ _ _ _ => rfl) (fun u _ _ => by rw [hA _ (by decide)]) (fun u _ _ => (un u).2)
/-- the weight of a deal in the middle of an act -/
def wgt (A : m_A) (cur t : Nat) : Nat := if A 47 t = 2 then 11 - (A 71 t).toNatClampNeg else if t = cur then 12 - (A 71 t).toNatClampNeg else 0
theorem wgt_le : wgt A cur t ≤ 12 := by
  unfold wgt
  split
  · omega
  · split <;> omega
theorem I_stp (h : I_all n b l nl nw nr na ne ch cur c T S) (hs : stp t q' s' S S') (h1 : 1 ≤ t) (h2 : t ≤ b)
    (hc : (cur = t ∧ S.2 47 t = 1) ∨ (cur = 0 ∧ S.2 47 t = 2)) (hc' : (s' = 1 ∧ cur' = t) ∨ (s' = 2 ∧ cur' = 0)) (eq : S.2 71 t = nI q) (hq : q' = q ∨ (q' = q + 1 ∧ q ≤ dp S.2 (o_1 S.2 t) + 6)) (hq2 : q' ≤ 12)
    (eLA : S'.1 66 = nI lA') (hLA : lA' + wgt S'.2 cur' t ≤ (S.1 66).toNatClampNeg + wgt S.2 cur t)
    (eL : S'.1 72 = nI nl') {ex : List v_LT} (vL : v_L nl' S'.2 = v_L nl S.2 ++ ex) {v : v_N}
    (hex : ex = [] ∨ (ex = [(nI t, v.1, v.2.1, v.2.2.1, v.2.2.2, S.2 51 t, 1)] ∧ q' = q + 1 ∧ (∃ o, o < n ∧ v.1 = nI o) ∧ (∃ w, w ≤ 4 ∧ v.2.1 = nI w) ∧ (v.2.1 = 4 → ∃ k, k < 20 ∧ v.2.2.1 = nI k) ∧ (¬ (v.2.1 = 0 ∨ v.2.1 = 1) → dp S.2 (o_1 S.2 t) ≤ q) ∧ s' = 1 ∧
      (∀ x ∈ v_L nl S.2, x.2.1 = v.1 → x.1 ≠ nI t → y_cf (S.2 4 v.1.toNatClampNeg) v.2.1 v.2.2.1 v.2.2.2 x.2.2.1 x.2.2.2.1 x.2.2.2.2.1 = false) ∧ (∀ x ∈ v_L nl S.2, ¬ eqL x (nI t, v.1, v.2.1, v.2.2.1, v.2.2.2, S.2 51 t, 1)) ∧
      (∀ G : List v_3, ((∀ x ∈ v_W nw S.2, x.1 = nI t → ¬ (x.2.2.1 = 0 ∨ x.2.2.1 = 1) → n3 x.2.2.1 x.2.2.2.1 x.2.2.2.2.1 ∈ G) ∧ n3 (y_lk (kd_1 S.2 t) (S.2 69 t)) (kd_1 S.2 t) (S.2 69 t) ∈ G ∧ n3 (y_lk (kd_2 S.2 t) (S.2 69 t)) (kd_2 S.2 t) (S.2 69 t) ∈ G) → ¬ (v.2.1 = 0 ∨ v.2.1 = 1) → n3 v.2.1 v.2.2.1 v.2.2.2 ∈ G)))
    (eW : S'.1 80 = nI nw') (hnw : nw' ≤ 12) (hah : w_ah 13 S'.2) {nW : v_WT} (memW : ∀ x, x ∈ v_W nw' S'.2 ↔ (x ∈ v_W nw S.2 ∧ x.1 ≠ nI t) ∨ (s' = 2 ∧ x = nW)) (ndW : ((v_W nw' S'.2).map (fun x => x.1)).Nodup)
    (hnW : s' = 2 → q' = q ∧ nW.1 = nI t ∧ I_w1 n b S'.2 nW ∧ (∀ G : List v_3, (n3 (y_lk (kd_1 S.2 t) (S.2 69 t)) (kd_1 S.2 t) (S.2 69 t) ∈ G ∧ n3 (y_lk (kd_2 S.2 t) (S.2 69 t)) (kd_2 S.2 t) (S.2 69 t) ∈ G) → ¬ (nW.2.2.1 = 0 ∨ nW.2.2.1 = 1) → n3 nW.2.2.1 nW.2.2.2.1 nW.2.2.2.2.1 ∈ G) ∧ ∀ y ∈ v_L nl S.2, ¬ eqL y (nW.1, nW.2.1, nW.2.2.1, nW.2.2.2.1, nW.2.2.2.2.1, 0, 0)) :
    I_all n b l nl' nw' nr na ne ch cur' c T S' := by
  obtain ⟨hL, hD, hE, hK, hV, hM, hP, hX⟩ := h
  have h12 : s' = 1 ∨ s' = 2 := by
    rcases hc' with z | z
    · exact Or.inl z.1
    · exact Or.inr z.1
  have hu : undw S.2 t := by
    rcases hc with z | z
    · exact Or.inl z.2
    · exact Or.inr z.2
  obtain ⟨kL, kE, kV, kM⟩ := I_keep (n := n) (b := b) (nr := nr) (na := na) (ne := ne) (ch := ch) hs h12 hu
  have un := stp_und hs h12 hu
  obtain ⟨hF, hA, hst, hsg⟩ := hs
  obtain ⟨d1, d2, d3, d4, d5, d6, d7, d8, d9, d10, d11⟩ := hD
  obtain ⟨k1, k2, k3, k4, k5, k6, k7, k8, k9, k10, k11, ⟨kq, G, k13⟩, k12⟩ := hK
  obtain ⟨p1, p2, p3, p4, p5, p6, p7⟩ := hP
  have stn : ∀ u, u ≠ t → S'.2 47 u = S.2 47 u := fun u e => by rw [hst, up_n e]
  have stt : S'.2 47 t = s' := by rw [hst, up_s]
  have sgn : ∀ u, u ≠ t → S'.2 71 u = S.2 71 u := fun u e => by rw [hsg, up_n e]
  have sgt : S'.2 71 t = nI q' := by rw [hsg, up_s]
  have int' : inp S'.2 cur' t := by
    rcases hc' with z | z
    · exact Or.inr z.2.symm
    · exact Or.inl (stt.trans z.1)
  have int0 : inp S.2 cur t := by
    rcases hc with z | z
    · exact Or.inr z.1.symm
    · exact Or.inl z.2
  have inn : ∀ u, 1 ≤ u → (inp S'.2 cur' u ↔ inp S.2 cur u) := fun u u1 => by
    by_cases e : u = t
    · subst e; exact ⟨fun _ => int0, fun _ => int'⟩
    · unfold inp
      rw [stn u e]
      have a1 : ¬ u = cur := by
        rcases hc with z | z
        · rw [z.1]; exact e
        · rw [z.1]; omega
      have a2 : ¬ u = cur' := by
        rcases hc' with z | z
        · rw [z.2]; exact e
        · rw [z.2]; omega
      exact ⟨fun z => z.elim Or.inl (fun y => absurd y a2), fun z => z.elim Or.inl (fun y => absurd y a1)⟩
  have ne9 : ∀ u, u ≤ b → u ≠ t → ¬ nI u = nI t := fun u hb hne e => hne (by rw [i_eq (by omega) (by omega)] at e; exact e)
  have lve : v_lv l S'.2 = v_lv l S.2 := by unfold v_lv; rw [hA _ (by decide)]
  have eso := hA 4 (by decide)
  have eas := hA 55 (by decide)
  have ele := hA 51 (by decide)
  have edp : ∀ o, dp S'.2 o = dp S.2 o := fun o => by unfold dp; rw [hA _ (by decide)]
  have eo1 : ∀ u, o_1 S'.2 u = o_1 S.2 u := fun u => by unfold o_1; rw [hA 68 (by decide), hA 67 (by decide), hA 70 (by decide)]
  have ek1 : ∀ u, kd_1 S'.2 u = kd_1 S.2 u := fun u => by unfold kd_1; rw [hA 68 (by decide), hA 67 (by decide), hA 70 (by decide)]
  have ek2 : ∀ u, kd_2 S'.2 u = kd_2 S.2 u := fun u => by unfold kd_2; rw [hA 68 (by decide), hA 67 (by decide), hA 70 (by decide)]
  have tlv : t ∈ v_lv l S.2 := (d9 t).mpr ⟨h1, h2, hu⟩
  have nd := pw_nd d8
  refine ⟨kL hL, ?_, kE hE, ?_, kV hV, kM hM, ?_, fun u u1 u2 hin => ?_⟩
  · refine ⟨d1, (hF _ (by decide)).trans d2, fun u u1 u2 => ?_, fun u u1 u2 => ?_, (hF _ (by decide)).trans d5, d6, fun i hi => by rw [hA _ (by decide)]; exact d7 i hi, by rw [lve]; exact d8, fun u => by rw [lve, d9 u, (un u).1], ?_, fun u u1 u2 hin => ?_⟩
    · obtain ⟨st, lv, m, x, a1, a2, a3, a4, a5, a6, a7, a8, a9, b1, bs, b2⟩ := d3 u u1 u2
      by_cases e : u = t
      · subst e
        have st2 : st ≤ 2 := by
          unfold undw at hu
          rw [a1, show (1 : Int32) = nI 1 from rfl, show (2 : Int32) = nI 2 from rfl, i_eq (by omega) (by omega), i_eq (by omega) (by omega)] at hu
          omega
        rcases h12 with z | z
        · exact ⟨1, lv, m, x, by rw [stt, z]; rfl, by omega, by omega, by rw [ele]; exact a4, a5, fun y => by omega, by rw [hA _ (by decide)]; exact a7, a8, by rw [eas]; exact a9, b1, bs, fun v v1 v2 => by rw [hA _ (by decide)]; exact b2 v v1 v2⟩
        · exact ⟨2, lv, m, x, by rw [stt, z]; rfl, by omega, by omega, by rw [ele]; exact a4, a5, fun y => by omega, by rw [hA _ (by decide)]; exact a7, a8, by rw [eas]; exact a9, b1, bs, fun v v1 v2 => by rw [hA _ (by decide)]; exact b2 v v1 v2⟩
      · exact ⟨st, lv, m, x, by rw [stn u e]; exact a1, a2, a3, by rw [ele]; exact a4, a5, a6, by rw [hA _ (by decide)]; exact a7, a8, by rw [eas]; exact a9, b1, bs, fun v v1 v2 => by rw [hA _ (by decide)]; exact b2 v v1 v2⟩
    · obtain ⟨z1, z2, z3, z4, z5, z6, z7⟩ := d4 u u1 u2
      exact ⟨by rw [stn u (by omega)]; exact z1, by rw [hA _ (by decide)]; exact z2, by rw [ele]; exact z3, by rw [hA _ (by decide)]; exact z4, by rw [eas]; exact z5, by rw [hA _ (by decide)]; exact z6, by rw [hA _ (by decide)]; exact z7⟩
    · rcases hc' with z | z
      · exact Or.inr ⟨by omega, by omega, by rw [z.2, stt]; exact z.1⟩
      · exact Or.inl z.2
    · obtain ⟨o, k, x, a1, a2, a3, a4, a5⟩ := d11 u u1 u2 ((inn u u1).mp hin)
      rw [hA 67 (by decide), hA 68 (by decide)]
      by_cases e : u = t
      · subst e; exact ⟨o, k, q', a1, a2, a3, sgt, hq2⟩
      · exact ⟨o, k, x, a1, a2, a3, by rw [sgn u e]; exact a4, a5⟩
  · have memL : ∀ x, x ∈ v_L nl' S'.2 ↔ x ∈ v_L nl S.2 ∨ x ∈ ex := fun x => by rw [vL, List.mem_append]
    have hkq : ∀ x ∈ v_W nw' S'.2, ∀ y ∈ v_L nl' S'.2, ¬ eqL y (x.1, x.2.1, x.2.2.1, x.2.2.2.1, x.2.2.2.2.1, 0, 0) := fun x hx y hy z => by
      rcases (memW x).mp hx with ⟨x1, x2⟩ | ⟨x1, x2⟩
      · rcases (memL y).mp hy with hy | hy
        · exact kq x x1 y hy z
        · rcases hex with e | ⟨e, _⟩
          · rw [e] at hy; cases hy
          · rw [e, List.mem_singleton] at hy
            subst hy
            exact x2 z.1.symm
      · rcases (memL y).mp hy with hy | hy
        · subst x2; exact (hnW x1).2.2.2.2 y hy z
        · rcases hex with e | ⟨e, _, _, _, _, _, e1, _⟩
          · rw [e] at hy; cases hy
          · rw [x1] at e1; exact absurd e1 (by decide)
    refine ⟨eL, eW, hnw, hah, fun x hx => ?_, fun x hx => ?_, ndW, fun u u1 u2 z => ?_, fun x hx y hy hxy hne => ?_, ?_, fun u u1 u2 z => ?_, ⟨hkq, G, fun u u1 u2 z => ?_⟩, fun u u1 u2 z p j hp hkk => ?_⟩
    · rcases (memL x).mp hx with hx | hx
      · obtain ⟨u, o, v, a1, a2, a3, a4, a5, a6, a7, a8, a9, b0, b1, b2⟩ := k5 x hx
        refine ⟨u, o, v, a1, a2, a3, (un u).1.mpr a4, a5, a6, a7, a8, a9, b0, by rw [ele]; exact b1, ?_⟩
        rcases b2 with b2 | b2
        · exact Or.inl b2
        · exact Or.inr ⟨b2.1, (inn u a2).mpr b2.2⟩
      · rcases hex with e | ⟨e, _, ⟨o, o1, o2⟩, hw, hk, _⟩
        · rw [e] at hx; cases hx
        · rw [e, List.mem_singleton] at hx
          obtain ⟨st, lv, m, y, a1, a2, a3, a4, a5, a6, _⟩ := d3 t h1 h2
          subst hx
          exact ⟨t, o, lv, rfl, h1, h2, (un t).1.mpr hu, o2, o1, hw, hk, a4, a5, by rw [ele, a4]; exact Int32.le_refl _, Or.inr ⟨rfl, int'⟩⟩
    · rcases (memW x).mp hx with ⟨x1, x2⟩ | ⟨x1, x2⟩
      · obtain ⟨u, o, a1, a2, a3, a4, a5, a6, a7, a8, a9, b1, b2⟩ := k6 x x1
        have hne : u ≠ t := fun e => x2 (by rw [a1, e])
        refine ⟨u, o, a1, a2, a3, by rw [stn u hne]; exact a4, a5, a6, a7, a8, a9, ?_, ?_⟩
        · rw [edp, sgn u hne, hA 68 (by decide), hA 67 (by decide), hA 69 (by decide)]
          exact b1
        · rw [eo1, edp (o_1 S.2 u), sgn u hne, hA 68 (by decide), hA 67 (by decide), edp]; exact b2
      · rw [x2]; exact (hnW x1).2.2.1
    · by_cases e : u = t
      · subst e
        rw [stt] at z
        exact ⟨nW, (memW nW).mpr (Or.inr ⟨z, rfl⟩), (hnW z).2.1⟩
      · rw [stn u e] at z
        obtain ⟨x, x1, x2⟩ := k8 u u1 u2 z
        exact ⟨x, (memW x).mpr (Or.inl ⟨x1, by rw [x2]; exact ne9 u u2 e⟩), x2⟩
    · rw [eso]
      rcases (memL x).mp hx with hx | hx
      · rcases (memL y).mp hy with hy | hy
        · exact k9 x hx y hy hxy hne
        · rcases hex with e | ⟨e, _, _, _, _, _, _, hcf, _⟩
          · rw [e] at hy; cases hy
          · rw [e, List.mem_singleton] at hy
            subst hy
            have hxy : x.2.1 = v.1 := hxy
            rw [cf_sym, hxy]
            exact hcf x hx hxy hne
      · rcases hex with e | ⟨e, _, _, _, _, _, _, hcf, _⟩
        · rw [e] at hx; cases hx
        · rw [e] at hx
          rcases (memL y).mp hy with hy | hy
          · rw [List.mem_singleton] at hx
            subst hx
            exact hcf y hy hxy.symm (fun z => hne z.symm)
          · rw [e] at hy
            rw [List.mem_singleton] at hx hy
            rw [hx, hy] at hne
            exact absurd rfl hne
    · rw [vL]
      rcases hex with e | ⟨e, _, _, _, _, _, _, _, hne, _⟩
      · rw [e, List.append_nil]; exact k10
      · rw [List.pairwise_append]
        refine ⟨k10, by rw [e]; exact List.pairwise_singleton _ _, fun x hx y hy => ?_⟩
        rw [e, List.mem_singleton] at hy
        subst hy
        exact hne x hx
    · have zz := (un u).1.mp z
      have k := k11 u u1 u2 zz
      rw [eas]
      by_cases e : u = t
      · subst e
        have r0 : rem7 S.2 cur u = if q ≤ dp S.2 (o_1 S.2 u) then 7 else dp S.2 (o_1 S.2 u) + 7 - q := by
          unfold rem7
          rw [if_pos (show S.2 47 u = 2 ∨ u = cur from int0), eq, i_cl (by omega)]
        have r1 : rem7 S'.2 cur' u = if q' ≤ dp S.2 (o_1 S.2 u) then 7 else dp S.2 (o_1 S.2 u) + 7 - q' := by
          unfold rem7
          rw [if_pos (show S'.2 47 u = 2 ∨ u = cur' from int'), sgt, i_cl (by omega), eo1, edp]
        have hx : (xl u (v_L nl' S'.2)).length = (xl u (v_L nl S.2)).length + (xl u ex).length := by
          rw [vL]; unfold xl; rw [List.filter_append, List.length_append]
        rw [hx, r1]
        rw [r0] at k
        rcases hex with e | ⟨e, e2, _, _, _, hd, _⟩
        · rw [e, show (xl u []).length = 0 from rfl]
          split at k <;> split <;> omega
        · by_cases c : v.2.1 = 0 ∨ v.2.1 = 1
          · have : (xl u ex).length = 0 := by
              rw [e]
              unfold xl
              rw [List.filter_cons_of_neg (by simp only [Bool.and_eq_true, Bool.not_eq_true', Bool.or_eq_false_iff, decide_eq_false_iff_not, decide_eq_true_eq]; exact fun z => c.elim z.2.1 z.2.2)]
              rfl
            rw [this]
            split at k <;> split <;> omega
          · have : (xl u ex).length ≤ 1 := by
              rw [e]; exact List.length_filter_le _ _
            have hd := hd c
            rcases hq with hq | hq
            · omega
            · have := hq.2
              split at k <;> split <;> omega
      · have hr : rem7 S'.2 cur' u = rem7 S.2 cur u := by
          have hi := inn u u1
          unfold rem7
          rw [eo1, edp, sgn u e]
          by_cases c : inp S.2 cur u
          · rw [if_pos (show S.2 47 u = 2 ∨ u = cur from c), if_pos (show S'.2 47 u = 2 ∨ u = cur' from hi.mpr c)]
          · rw [if_neg (show ¬ (S.2 47 u = 2 ∨ u = cur) from c), if_neg (show ¬ (S'.2 47 u = 2 ∨ u = cur') from fun y => c (hi.mp y))]
        have hx : xl u (v_L nl' S'.2) = xl u (v_L nl S.2) := by
          rw [vL]
          unfold xl
          rw [List.filter_append]
          rcases hex with y | ⟨y, _⟩
          · rw [y]; exact List.append_nil _
          · rw [y, List.filter_cons_of_neg (by simp only [Bool.and_eq_true, decide_eq_true_eq]; exact fun z => ne9 u u2 e z.1.symm)]
            exact List.append_nil _
        rw [hr, hx]
        exact k
    · obtain ⟨j1, j2, j3, j4⟩ := k13 u u1 u2 ((un u).1.mp z)
      refine ⟨by rw [eas]; exact j1, fun x hx hxt hxe => ?_, fun x hx hxt hxe => ?_, fun hin => ?_⟩
      · rcases (memL x).mp hx with hx | hx
        · exact j2 x hx hxt hxe
        · rcases hex with e | ⟨e, _, _, _, _, _, _, _, _, hG⟩
          · rw [e] at hx; cases hx
          · rw [e, List.mem_singleton] at hx
            subst hx
            have eu : u = t := by
              have hxt : nI t = nI u := hxt
              rw [i_eq (by omega) (by omega)] at hxt
              exact hxt.symm
            subst eu
            exact hG (G u) ⟨j3, j4 int0⟩ hxe
      · rcases (memW x).mp hx with ⟨x1, x2⟩ | ⟨x1, x2⟩
        · exact j3 x x1 hxt hxe
        · subst x2
          obtain ⟨y1, y2, y3, y4, _⟩ := hnW x1
          have eu : u = t := by
            rw [y2, i_eq (by omega) (by omega)] at hxt
            exact hxt.symm
          subst eu
          exact y4 (G u) (j4 int0) hxe
      · rw [ek1, ek2, hA 69 (by decide)]
        exact j4 ((inn u u1).mp hin)
    · rw [hA 36 (by decide)] at hkk
      obtain ⟨x, x1, x2, x3, x4, x5, x6, x9, v, v4, x7, x8⟩ := k12 u u1 u2 ((un u).1.mp z) p j hp hkk
      refine ⟨x, (memL x).mpr (Or.inl x1), x2, by rw [hA 35 (by decide)]; exact x3, x4, by rw [hA 36 (by decide)]; exact x5, by rw [hA 37 (by decide)]; exact x6, x9, v, v4, x7, fun hv => by rw [hA 54 (by decide)]; exact x8 hv⟩
  · have inu : ∀ u ∈ v_lv l S.2, ((S'.2 47 u = 2 ∨ u = cur') = (S.2 47 u = 2 ∨ u = cur)) := fun u hu => propext (inn u ((d9 u).mp hu).1)
    have w12 : wgt S.2 cur t ≤ 12 := wgt_le
    unfold I_po
    rw [lve, hA 52 (by decide), eas]
    refine ⟨p1, ?_, p3, ?_, p5, ?_, by rw [eLA, i_cl (by omega)]⟩
    · rw [sum_cg (g := fun u => (S.2 52 u).toNatClampNeg + 1 + (if S.2 47 u = 2 ∨ u = cur then 2 else 0)) (fun u hu => by simp only [inu u hu])]
      exact p2
    · rw [sum_cg (g := fun u => if S.2 47 u = 2 ∨ u = cur then 1 else 0) (fun u hu => by simp only [inu u hu])]
      exact p4
    · have := sum_up (f := wgt S.2 cur) (g := wgt S'.2 cur') nd tlv (fun u hu e => by
        unfold wgt
        rw [stn u e, sgn u e]
        by_cases c : S.2 47 u = 2
        · rw [if_pos c, if_pos c]
        · have a1 : ¬ u = cur := by
            rcases hc with z | z
            · rw [z.1]; exact e
            · rw [z.1]; have := ((d9 u).mp hu).1; omega
          have a2 : ¬ u = cur' := by
            rcases hc' with z | z
            · rw [z.2]; exact e
            · rw [z.2]; have := ((d9 u).mp hu).1; omega
          rw [if_neg c, if_neg c, if_neg a1, if_neg a2])
      have p6' : (S.1 66).toNatClampNeg + ((v_lv l S.2).map (wgt S.2 cur)).sum ≤ 12 * c := p6
      show (S'.1 66).toNatClampNeg + ((v_lv l S.2).map (wgt S'.2 cur')).sum ≤ 12 * c
      rw [eLA, i_cl (by omega)]
      omega
  · rw [hA 67 (by decide), hA 68 (by decide), hA 69 (by decide), hA 70 (by decide)]
    exact hX u u1 u2 ((inn u u1).mp hin)
end SB
