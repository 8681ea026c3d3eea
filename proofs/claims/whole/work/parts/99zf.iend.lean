/-! an act ends: the reference's invariants -/
section TI
variable {S S' : m_S} {A : m_A} {n b l nl nl' nw nr na ne t o k c T d : Nat} {ch ch' : Nat → List Nat} {dr : Bool}
def fp_c : List Nat := [31, 9, 10, 11, 12, 57, 56, 52, 53, 34, 35, 36, 37, 38, 39, 40, 41, 42, 43] ++ fp_R ++ fp_L
def fp_cF : List Nat := [25, 28, 26, 27, 30, 29, 65, 64, 72, 33, 13]
theorem I_end (hI : I_all n b l nl nw nr na ne ch t c T S) (h1 : 1 ≤ t) (eA : ∀ f, f ∉ fp_c → S'.2 f = S.2 f) (eF : ∀ f, f ∉ fp_cF → S'.1 f = S.1 f) (tr : ∃ q, q ≤ 16 ∧ S'.1 30 = nI q) (it : S'.1 29 = 0)
    (hd : d ≤ 1) (man : S'.2 52 = va_up (S.2 52) t (nI ((ch t).length + d))) (oth : ∀ u, u ≠ t → S'.2 56 u = S.2 56 u ∧ S'.2 57 u = S.2 57 u)
    (rwe : rw_eq nr S.2 S'.2) (new : ∀ j, nr ≤ j → j < nr + d → ¬ S'.2 17 j = 4) (ha : acp na S.2 S'.2) (ec : ∀ u, u ≠ t → ch' u = ch u)
    (lg : I_lg n b (nr + d) (na + d) ch' S') (lk : I_lk n b nl' nw 0 ch' S') : I_all n b l nl' nw (nr + d) (na + d) ne ch' 0 c (T + d) S' := by
  obtain ⟨hL, hD, hE, hK, hV, hM, hP, hX⟩ := hI
  obtain ⟨tm, t2, st⟩ := lv_mem hD h1
  have hch := hL.2.2.2.2.2.2.1 t h1 t2 (Or.inl (Or.inl st))
  have em : (S.2 52 t).toNatClampNeg = (ch t).length := by rw [hch.1, i_cl (by have := hch.2.1; omega)]
  have est := eA 47 (by decide)
  have lve : v_lv l S'.2 = v_lv l S.2 := by unfold v_lv; rw [eA _ (by decide)]
  have nd := pw_nd hD.2.2.2.2.2.2.2.1
  have inn : ∀ u, 1 ≤ u → inp S'.2 0 u → inp S.2 t u := fun u u1 z => by
    unfold inp at z ⊢
    rw [est] at z
    rcases z with z | z
    · exact Or.inl z
    · omega
  have len5 : (ch t).length < 512 := by
    have nd' : (ch t).Nodup := hch.2.2.2.2.imp (fun {x y} h e => by rw [e] at h; omega)
    have q1 := nodup_len na (ch t) nd' (fun j hj => (hch.2.2.2.1 j hj).1)
    have q2 := hP.2.2.2.1
    have q3 := sum_up (t := t) (f := fun u => if S.2 47 u = 2 ∨ u = t then 1 else 0) (g := fun u => if u = t then 0 else (if S.2 47 u = 2 ∨ u = t then 1 else 0)) nd tm (fun u _ e => if_neg e)
    rw [if_pos rfl, if_pos (Or.inr rfl)] at q3
    have := hP.2.2.1
    omega
  obtain ⟨d1, d2, d3, d4, d5, d6, d7, d8, d9, d10, d11⟩ := hD
  refine ⟨lg, ⟨d1, (eF _ (by decide)).trans d2, fun u u1 u2 => ?_, fun u u1 u2 => ?_, (eF _ (by decide)).trans d5, d6, fun i hi => by rw [eA _ (by decide)]; exact d7 i hi, by rw [lve]; exact d8, fun u => by rw [lve, d9 u]; unfold undw; rw [est], Or.inl rfl, fun u u1 u2 hin => ?_⟩, ?_, lk, hV.cg (eA _ (by decide)) (eA _ (by decide)) (eA _ (by decide)) (eA _ (by decide)) (eA _ (by decide)), ?_, ?_, fun u u1 u2 hin => ?_⟩
  · obtain ⟨s, lv, m, x, a1, a2, a3, a4, a5, a6, a7, a8, a9, b1, bs, b2⟩ := d3 u u1 u2
    by_cases e : u = t
    · subst e
      have mm : m = (ch u).length := by rw [a7, i_cl (by omega)] at em; exact em
      refine ⟨s, lv, (ch u).length + d, x, by rw [est]; exact a1, a2, a3, by rw [eA _ (by decide)]; exact a4, a5, a6, by rw [man, up_s], by omega, by rw [eA _ (by decide)]; exact a9, b1, bs, fun v v1 v2 => ?_⟩
      obtain ⟨y1, y2, y3⟩ := b2 v v1 v2
      exact ⟨by rw [eA _ (by decide)]; exact y1, by omega, y3⟩
    · exact ⟨s, lv, m, x, by rw [est]; exact a1, a2, a3, by rw [eA _ (by decide)]; exact a4, a5, a6, by rw [man, up_n e]; exact a7, a8, by rw [eA _ (by decide)]; exact a9, b1, bs, fun v v1 v2 => by rw [eA _ (by decide)]; exact b2 v v1 v2⟩
  · have ne : u ≠ t := by omega
    obtain ⟨z1, z2, z3, z4, z5, z6, z7⟩ := d4 u u1 u2
    exact ⟨by rw [est]; exact z1, by rw [eA _ (by decide)]; exact z2, by rw [eA _ (by decide)]; exact z3, by rw [man, up_n ne]; exact z4, by rw [eA _ (by decide)]; exact z5, by rw [(oth u ne).1]; exact z6, by rw [(oth u ne).2]; exact z7⟩
  · obtain ⟨o, k, x, a1, a2, a3, a4, a5⟩ := d11 u u1 u2 (inn u u1 hin)
    exact ⟨o, k, x, by rw [eA _ (by decide)]; exact a1, by rw [eA _ (by decide)]; exact a2, a3, by rw [eA _ (by decide)]; exact a4, a5⟩
  · refine hE.cg2 (by omega) rwe new (eF _ (by decide)) (eA _ (by decide)) (eA _ (by decide)) (fun u u1 u2 hu => ?_) (fun u _ _ => by rw [eA _ (by decide)]) (fun u _ _ => by rw [est])
    have ne : u ≠ t := fun e => by rw [e, st] at hu; exact absurd hu (by decide)
    exact ⟨ec u ne, fun j hj => acp_ar ha ((hL.2.2.2.2.2.2.1 u u1 u2 (Or.inr hu)).2.2.2.1 j hj).1⟩
  · obtain ⟨a1, a2, a3, a4, ⟨f, hf, ef⟩, a6, a7, a8, a9⟩ := hM
    exact ⟨(eF _ (by decide)).trans a1, (eF _ (by decide)).trans a2, it, tr, ⟨f, by omega, (eF _ (by decide)).trans ef⟩, by rw [eF _ (by decide)]; exact a6, by rw [eA _ (by decide)]; exact a7, by rw [eF _ (by decide)]; exact a8, by rw [eF 16 (by decide), eF 63 (by decide)]; exact a9⟩
  · obtain ⟨p1, p2, p3, p4, p5, p6, p7⟩ := hP
    have ne0 : ∀ u ∈ v_lv l S.2, ¬ u = 0 := fun u hu e => by have := ((d9 u).mp hu).1; omega
    unfold I_po
    rw [lve, est, eA 55 (by decide), eA 71 (by decide), eF 66 (by decide)]
    have st2 : ¬ S.2 47 t = 2 := by rw [st]; decide
    have q1 := sum_up (t := t) (f := fun u => (S.2 52 u).toNatClampNeg + 1 + (if S.2 47 u = 2 ∨ u = t then 2 else 0)) (g := fun u => (S'.2 52 u).toNatClampNeg + 1 + (if S.2 47 u = 2 ∨ u = 0 then 2 else 0)) nd tm (fun u hu e => by
      rw [man, up_n e]
      by_cases c : S.2 47 u = 2
      · rw [if_pos (Or.inl c), if_pos (Or.inl c)]
      · rw [if_neg (fun z => z.elim c (ne0 u hu)), if_neg (fun z => z.elim c e)])
    rw [if_pos (Or.inr rfl), if_neg (fun z => z.elim st2 (by omega)), man, up_s, em, i_cl (by omega)] at q1
    have q2 := sum_up (t := t) (f := fun u => if S.2 47 u = 2 ∨ u = t then 1 else 0) (g := fun u => if S.2 47 u = 2 ∨ u = 0 then 1 else 0) nd tm (fun u hu e => by
      by_cases c : S.2 47 u = 2
      · rw [if_pos (Or.inl c), if_pos (Or.inl c)]
      · rw [if_neg (fun z => z.elim c (ne0 u hu)), if_neg (fun z => z.elim c e)])
    rw [if_pos (Or.inr rfl), if_neg (fun z => z.elim st2 (by omega))] at q2
    have q3 := sum_up (t := t) (f := fun u => if S.2 47 u = 2 then 11 - (S.2 71 u).toNatClampNeg else if u = t then 12 - (S.2 71 u).toNatClampNeg else 0) (g := fun u => if S.2 47 u = 2 then 11 - (S.2 71 u).toNatClampNeg else if u = 0 then 12 - (S.2 71 u).toNatClampNeg else 0) nd tm (fun u hu e => by
      by_cases c : S.2 47 u = 2
      · rw [if_pos c, if_pos c]
      · rw [if_neg c, if_neg c, if_neg e, if_neg (ne0 u hu)])
    rw [if_neg st2, if_neg st2, if_pos rfl, if_neg (show ¬ t = 0 by omega)] at q3
    rw [← man] at q1
    exact ⟨by omega, by omega, p3, by omega, p5, by omega, p7⟩
  · obtain ⟨o, k, a1, a2, a3, a4, a5⟩ := hX u u1 u2 (inn u u1 hin)
    exact ⟨o, k, by rw [eA _ (by decide)]; exact a1, a2, by rw [eA _ (by decide)]; exact a3, a4, by rw [eA 69 (by decide), eA 70 (by decide)]; exact a5⟩
/-- who has all that its act needs holds the lock for it -/
theorem held_of {q : Nat} (hcu : I_cu t nl A) (eq : A 71 t = nI q) (hq : q ≤ 12) (hv : needAt A t q = none) (hk : k < 18) (ek : A 68 t = nI k) : ∃ x ∈ v_L nl A, x.1 = nI t ∧ x.2.1 = A 67 t ∧ x.2.2.1 = 4 ∧ x.2.2.2.1 = nI k ∧ x.2.2.2.2.1 = A 69 t := by
  refine hcu k q hk ek eq hq ?_
  have ck : (A 68 t).toNatClampNeg = k := by rw [ek, i_cl (by omega)]
  have e1 : L_1 A t = ((A 67 t).toNatClampNeg, k) := by unfold L_1; rw [ck, if_neg (by omega)]
  unfold needAt at hv
  rw [e1] at hv
  by_cases cq : q ≤ dp A (A 67 t).toNatClampNeg
  · rw [if_pos cq] at hv; cases hv
  · omega
/-- what the act of a deal is, and what work does -/
def Wk (o k t : Nat) (S : m_S) : Int32 × m_S := y_work o k (S.2 69 t) (S.2 70 t) (y_di0 S)
theorem di0_sz : (y_di0 S).2 = S.2 := rfl
theorem wk_do (hk : k < 22) : wk_R o k (S.2 69 t) (S.2 70 t) ((y_di0 S).1, S.2) (Wk o k t S) := wk_ok hk
theorem had_do (hk : k < 22) : (Wk o k t S).2.1 27 = 0 ∨ (Wk o k t S).2.1 27 = 1 := by
  rcases (wk_do (o := o) (t := t) (S := S) hk).1 with z | z
  · left; rw [z]; unfold y_di0; dsimp only; rw [up_s]
  · exact z
theorem wk_F {f : Nat} (h : f ∉ [25, 28, 26, 27, 30, 29]) : (Wk o k t S).2.1 f = S.1 f := by
  have := (z_frW (x := o) (k := k) (a := S.2 69 t) (b := S.2 70 t) (S := y_di0 S)).1 f (nmem h (by decide)) (nmem h (by decide)) (nmem h (by decide)) (nmem h (by decide)) (nmem h (by decide))
  refine this.trans ?_
  unfold y_di0
  dsimp only
  rw [up_n (nmem h (by decide)), up_n (nmem h (by decide)), up_n (nmem h (by decide))]
theorem wk_A {f : Nat} (h : f ∉ [31, 9, 10, 11, 12]) : (Wk o k t S).2.2 f = S.2 f :=
  (z_frW (x := o) (k := k) (a := S.2 69 t) (b := S.2 70 t) (S := y_di0 S)).2.1 f (nmem h (by decide)) (nmem h (by decide)) (nmem h (by decide)) (nmem h (by decide)) (nmem h (by decide))
theorem r_do_ok (hI : I_all n b l nl nw nr na ne ch t c T S) (hak : askOk n S.2 t) (h1 : 1 ≤ t) (eo : S.2 67 t = nI o) (ho : o < n) (ek : S.2 68 t = nI k) (hk : k < 22) (har : ar_R n o k (S.2 69 t) (S.2 70 t)) : r_do t S (y_doIt t o k na nl S) := by
  obtain ⟨hL, hD, hE, hK, hV, hM, hP, hX⟩ := hI
  have n40 := hL.2.2.1.1
  obtain ⟨n1, n2⟩ := nl_le hD hK n40 hP
  obtain ⟨o', k', y1, y2, y3, y4, y5, y6⟩ := hak
  have oo : o' = o := by rw [eo, i_eq (by omega) (by omega)] at y1; exact y1.symm
  subst oo
  have nrl : nr ≤ 1024 := by have := hP.1; have := hP.2.1; have := hP.2.2.1; omega
  refine ⟨o', k, na, nl, by omega, hk, by have := hL.2.2.2.2.1; omega, by omega, eo, ek, hL.2.2.2.1, hK.1, fun j hj => ?_, by rw [hL.1]; exact vp_in_nI (by omega) (by decide), hL.2.2.2.2.2.2.2.2.2, har.1, har.2.1, fun z s7 => ?_, fun z => ?_, fun z => ⟨n, n40, hM.2.1, par_of hL.2.2.1⟩, fun S2 e => ?_, rfl⟩
  · obtain ⟨_, _, _, _, _, _, _, _, _, _, _, _, _, _, b3⟩ := hK.2.2.2.2.1 _ (mem_vL hj)
    rcases b3 with b3 | b3
    · exact Or.inl b3
    · exact Or.inr b3.1
  · rcases y6 s7 with z1 | ⟨p, p1, p2⟩
    · exact Or.inl z1
    · exact Or.inr ⟨p, by omega, p2⟩
  · obtain ⟨q, q1, q2, q3⟩ := har.2.2.2.2 z
    exact ⟨q, by omega, q3⟩
  · rw [e]; exact had_do hk
end TI
