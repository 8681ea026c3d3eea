/-! the next need: the class beside the reference -/
section RY
variable {U : k_U} {P P' : k_P} {S : m_S} {A : m_A} {Z : k_Z} {own n t d q : Nat}
def eqA (d : Nat) (P P' : k_P) : Prop := (∀ f a, (f ≠ 24 ∧ f ≠ 25) ∨ a ≠ d + 1 → P'.1 f a = P.1 f a) ∧ P'.2 = P.2
theorem eqA.rf : eqA d P P := ⟨fun _ _ _ => rfl, rfl⟩
theorem eqA.leg : eqA d P (k_nLeg P (d + 1)) := by
  refine ⟨fun f a h => ?_, rfl⟩
  unfold k_nLeg
  rcases h with h | h
  · rw [k_rn h.2, k_rn h.1]
  · by_cases c : f = 25
    · subst c; rw [k_ra h, k_rn (by decide)]
    · rw [k_rn c]
      by_cases c2 : f = 24
      · subst c2; rw [k_ra h]
      · rw [k_rn c2]
theorem eqA.tr {P'' : k_P} (h : eqA d P P') (k : eqA d P' P'') : eqA d P P'' := ⟨fun f a z => (k.1 f a z).trans (h.1 f a z), k.2.trans h.2⟩
theorem up_ok (hS : R_sh P U (own + 1) n A 0) (hob : R_ob n A) {j : Nat} (hj : j ≤ 5) : ∀ (f o : Nat), o < n → dp A o - j ≤ f → k_up P U (own + 1) n (nI j) f (nI o) = nI (anc A o (dp A o - j))
  | 0, o, ho, h => by rw [k_up, show dp A o - j = 0 by omega, anc]
  | f + 1, o, ho, h => by
    have n40 := hob.1
    obtain ⟨d1, d2⟩ := dp_ok hob ho
    have hd : P.1 222 (k_th U (own + 1) o) = nI (dp A o) := by
      have := (hS o ho).2.2.1
      rw [d1] at this
      have e := congrArg (fun z => z - 1) this
      simp only [Int32.add_sub_cancel] at e
      rw [e, i_s1 (by omega), Nat.add_sub_cancel]
    rw [k_up, k_tO_s ho n40]
    dsimp only
    rw [hd]
    by_cases c : j < dp A o
    · rw [if_pos (by rw [i_lt (by omega) (by omega)]; exact c), (hS o ho).2.1]
      obtain ⟨s, d', q1, q2, q3, q4, q5, q6⟩ := hob.2 o ho
      have e : d' = dp A o := by rw [d1, i_eq (by omega) (by omega)] at q3; omega
      obtain ⟨p, p1, p2, p3, p4⟩ : ∃ p, p < o ∧ A 5 o = nI p ∧ A 4 p = 0 ∧ A 7 p = nI (dp A o) := by
        rcases q6 with q6 | q6
        · omega
        · rw [← e]; exact q6
      clear q6 q5
      have e2 : dp A p = dp A o - 1 := by unfold dp at p4 ⊢; rw [p4, i_cl (by unfold dp at d2; omega)]
      rw [p2, up_ok hS hob hj f p (by omega) (by omega), e2, show dp A o - j = (dp A o - 1 - j) + 1 by omega, anc, p2, i_cl (by omega)]
    · rw [if_neg (by rw [i_lt (by omega) (by omega)]; exact c), show dp A o - j = 0 by omega, anc]
def FN (P : k_P) (d : Nat) (v : v_N) : Nat → Int32 := k_lkF v.1 v.2.1 (if v.2.1 = 4 then v.2.2.1 else -9) (if v.2.1 = 4 then v.2.2.2 else -9) (P.1 47 d) (P.1 45 d)
theorem lOF_ok {p k a : Int32} : k_lOF P d p k a = FN P d (p, y_lk k a, k, a) := by
  unfold k_lOF FN y_lk
  dsimp only
  by_cases c20 : k = 20
  · rw [if_pos (Or.inl c20), if_pos c20, if_neg (by decide), if_neg (by decide)]
  · by_cases c21 : k = 21
    · by_cases ca : a = 0
      · rw [if_pos (Or.inr ⟨c21, ca⟩), if_neg c20, if_pos c21, if_pos ca, if_neg (by decide), if_neg (by decide)]
      · rw [if_neg (fun z => z.elim c20 (fun z => ca z.2)), if_pos c21, if_neg c20, if_pos c21, if_neg ca, if_neg (by decide), if_neg (by decide)]
    · rw [if_neg (fun z => z.elim c20 (fun z => c21 z.1)), if_neg c21, if_neg c20, if_neg c21, if_pos rfl, if_pos rfl]
/-- one part of the needs -/
theorem part_ok (hS : R_sh P U (own + 1) n A 0) (hob : R_ob n A) {f : Nat} {x : Nat × Nat} {sp : Nat} {a : Int32} (hx : x.1 < n) (hl : P.1 24 (d + 1) < 2) (ep : k_lgP P U own (d + 1) = nI x.1) (ek : k_lgK P (d + 1) (nI x.1) = nI x.2) (es : P.1 25 (d + 1) = nI sp) (ea : P.1 22 (d + 1) = a) (hsp : sp ≤ 100) :
    k_nn U own n d (f + 1) P = if sp ≤ dp A x.1 then (P, some (FN P d (legAt A x a sp))) else k_nn U own n d f (k_nLeg P (d + 1)) := by
  have n40 := hob.1
  obtain ⟨d1, d2⟩ := dp_ok hob hx
  have hd : P.1 222 (k_th U (own + 1) x.1) = nI (dp A x.1) := by
    have := (hS x.1 hx).2.2.1
    rw [d1] at this
    have e := congrArg (fun z => z - 1) this
    simp only [Int32.add_sub_cancel] at e
    rw [e, i_s1 (by omega), Nat.add_sub_cancel]
  rw [k_nn, if_pos hl, ep, k_tO_s hx n40]
  dsimp only
  rw [es, hd, ek, ea]
  unfold legAt
  by_cases c1 : sp < dp A x.1
  · rw [if_pos (by rw [i_lt (by omega) (by omega)]; exact c1), if_pos (show sp ≤ dp A x.1 by omega), if_pos c1, up_ok hS hob (by omega) 6 x.1 hx (by omega)]
    unfold FN
    dsimp only
    by_cases cr : y_rd (nI x.2) a = true
    · rw [if_pos cr, if_neg (by decide)]
    · rw [if_neg cr, if_neg (by decide)]
  · rw [if_neg (by rw [i_lt (by omega) (by omega)]; exact c1)]
    by_cases c2 : sp = dp A x.1
    · rw [if_pos (by rw [c2]), if_pos (show sp ≤ dp A x.1 by omega), if_neg c1, lOF_ok]
    · rw [if_neg (fun z => c2 (by rw [i_eq (by omega) (by omega)] at z; exact z)), if_neg (show ¬ sp ≤ dp A x.1 by omega)]
theorem no_part {f : Nat} (hl : P.1 24 (d + 1) < 2) (ep : k_tO U (own + 1) n (k_lgP P U own (d + 1)) = none) : k_nn U own n d (f + 1) P = k_nn U own n d f (k_nLeg P (d + 1)) := by
  rw [k_nn, if_pos hl, ep]
theorem nn_end {f : Nat} (hl : ¬ P.1 24 (d + 1) < 2) : k_nn U own n d f P = (P, none) := by
  cases f with
  | zero => rfl
  | succ f => rw [k_nn, if_neg hl]
theorem leg_next : (k_nLeg P (d + 1)).1 24 (d + 1) = P.1 24 (d + 1) + 1 ∧ (k_nLeg P (d + 1)).1 25 (d + 1) = 0 := by
  unfold k_nLeg
  exact ⟨by rw [k_rn (by decide), k_rs], k_rs⟩
theorem R_sh.eqA (h : R_sh P U (own + 1) n A 0) (e : eqA d P P') : R_sh P' U (own + 1) n A 0 := h.keep (fun f hf o _ => e.1 f _ (Or.inl ⟨by omega, by omega⟩)) (fun o _ => by rw [e.2]) rfl rfl rfl (fun _ _ => ⟨rfl, rfl, rfl⟩) (fun _ _ _ => rfl)
theorem k_num_ok (hS : R_sh P U (own + 1) n A 0) {o : Nat} (ho : o < n) : k_num P U (own + 1) o = if A 4 o = 7 then A 9 o else -1 := by
  obtain ⟨a1, a2, a3, a4, a5⟩ := hS o ho
  unfold k_num
  rw [a1]
  by_cases c : A 4 o = 7
  · rw [if_pos c, if_pos c, (a4.2.2 (by rw [c]; decide) (by rw [c]; decide)).1, Nat.zero_add]
  · rw [if_neg c, if_neg c]
/-- the second part -/
theorem leg1_ok (hS : R_sh P U (own + 1) n A 0) (hob : R_ob n A) (hk : askOk n A t) (e1 : P.1 20 (d + 1) = A 67 t) (e2 : P.1 21 (d + 1) = A 68 t) (e3 : P.1 22 (d + 1) = A 69 t) (e4 : P.1 23 (d + 1) = A 70 t) {sp f : Nat} (es : P.1 25 (d + 1) = nI sp) (el : P.1 24 (d + 1) = 1) (hsp : sp ≤ 100) :
    k_nn U own n d (f + 1) P = match L_2 A t with
      | none => (k_nLeg P (d + 1), none)
      | some y => if sp ≤ dp A y.1 then (P, some (FN P d (legAt A y (A 69 t) sp))) else (k_nLeg P (d + 1), none) := by
  obtain ⟨o, k, h1, ho, h2, hk2, har, hsl⟩ := hk
  have n40 := hob.1
  have co : (A 67 t).toNatClampNeg = o := by rw [h1, i_cl (by omega)]
  have ck : (A 68 t).toNatClampNeg = k := by rw [h2, i_cl (by omega)]
  have kk : ∀ m : Nat, m < 22 → (nI k = nI m) = (k = m) := fun m hm => i_eq (by omega) (by omega)
  have hl : P.1 24 (d + 1) < 2 := by rw [el]; decide
  have nx : k_nn U own n d f (k_nLeg P (d + 1)) = (k_nLeg P (d + 1), none) := nn_end (by rw [leg_next.1, el]; decide)
  have eP : ∀ m : Nat, m < 22 → k ≠ m → ¬ P.1 21 (d + 1) = nI m := fun m hm h z => h (by rw [e2, h2, kk m hm] at z; exact z)
  unfold L_2
  rw [co, ck]
  by_cases c19 : k = 19
  · obtain ⟨b, b1, b2, b3⟩ := har.2.2.2.2 c19
    have cb : (A 70 t).toNatClampNeg = b := by rw [b3, i_cl (by omega)]
    have e19 : P.1 21 (d + 1) = 19 := by rw [e2, h2, c19]; rfl
    rw [if_pos c19, cb]
    have ep : k_lgP P U own (d + 1) = nI (if o < b then (b, 15) else (o, 16)).1 := by
      unfold k_lgP
      rw [if_pos e19, el, if_neg (by decide), e1, e4, h1, b3]
      by_cases c : o < b
      · rw [if_pos (by rw [i_lt (by omega) (by omega)]; exact c), if_pos c]
      · rw [if_neg (by rw [i_lt (by omega) (by omega)]; exact c), if_neg c]
    have ek : k_lgK P (d + 1) (nI (if o < b then (b, 15) else (o, 16)).1) = nI (if o < b then (b, 15) else (o, 16)).2 := by
      unfold k_lgK
      rw [if_pos e19, e1, h1]
      by_cases c : o < b
      · rw [if_pos c, if_neg (by rw [i_eq (by omega) (by omega)]; omega)]; rfl
      · rw [if_neg c, if_pos rfl]; rfl
    have := part_ok (f := f) hS hob (show (if o < b then (b, 15) else (o, 16)).1 < n by split <;> assumption) hl ep ek es e3 hsp
    rw [this, nx]
  · rw [if_neg c19]
    have n19 : ¬ P.1 21 (d + 1) = 19 := eP 19 (by omega) c19
    by_cases c18 : k = 18
    · have e18 : P.1 21 (d + 1) = 18 := by rw [e2, h2, c18]; rfl
      have ep : k_lgP P U own (d + 1) = if A 4 o = 7 then A 9 o else -1 := by
        unfold k_lgP
        rw [if_neg n19, el, if_neg (by decide), if_pos e18, e1, co]
        exact k_num_ok hS ho
      by_cases cs : A 4 o = 7 ∧ ¬ A 9 o = -1
      · obtain ⟨p, p1, p2⟩ : ∃ p, p < n ∧ A 9 o = nI p := by
          rcases hsl cs.1 with z | z
          · exact absurd z cs.2
          · exact z
        rw [if_pos ⟨c18, cs⟩]
        dsimp only
        rw [p2, i_cl (by omega)]
        have ek : k_lgK P (d + 1) (nI p) = nI 1 := by
          unfold k_lgK
          rw [if_neg n19, if_pos ⟨e18, el⟩]; rfl
        have := part_ok (x := (p, 1)) (f := f) hS hob p1 hl (by rw [ep, if_pos cs.1]; exact p2) ek es e3 hsp
        rw [this, nx]
      · rw [if_neg (fun z => cs z.2)]
        dsimp only
        have e0 : (if A 4 o = 7 then A 9 o else -1) = -1 := by
          by_cases c : A 4 o = 7
          · rw [if_pos c]
            by_cases c2 : A 9 o = -1
            · exact c2
            · exact absurd ⟨c, c2⟩ cs
          · rw [if_neg c]
        rw [no_part hl (by rw [ep, e0]; exact k_tO_m1), nx]
    · rw [if_neg (fun z => c18 z.1)]
      dsimp only
      have n18 : ¬ P.1 21 (d + 1) = 18 := eP 18 (by omega) c18
      have ep : k_lgP P U own (d + 1) = -1 := by
        unfold k_lgP
        rw [if_neg n19, el, if_neg (by decide), if_neg n18]
      rw [no_part hl (by rw [ep]; exact k_tO_m1), nx]
theorem o1_L1 (hk : askOk n A t) (n40 : n ≤ 40) : o_1 A t = (L_1 A t).1 ∧ (L_1 A t).1 < n := by
  obtain ⟨o, k, h1, ho, h2, hk2, har, hsl⟩ := hk
  have co : (A 67 t).toNatClampNeg = o := by rw [h1, i_cl (by omega)]
  have ck : (A 68 t).toNatClampNeg = k := by rw [h2, i_cl (by omega)]
  unfold o_1 L_1
  rw [co, ck, h2]
  by_cases c19 : k = 19
  · obtain ⟨b, b1, b2, b3⟩ := har.2.2.2.2 c19
    have cb : (A 70 t).toNatClampNeg = b := by rw [b3, i_cl (by omega)]
    rw [cb, if_pos (by rw [c19]; rfl), if_pos c19]
    by_cases c : o < b
    · rw [if_pos c]; exact ⟨by dsimp only; omega, ho⟩
    · rw [if_neg c]; exact ⟨by dsimp only; omega, b1⟩
  · rw [if_neg (fun z => c19 (by rw [show (19 : Int32) = nI 19 from rfl, i_eq (by omega) (by omega)] at z; exact z)), if_neg c19]
    exact ⟨rfl, ho⟩
/-- the next need -/
theorem nn_ok (hS : R_sh P U (own + 1) n A 0) (hob : R_ob n A) (hk : askOk n A t) (e1 : P.1 20 (d + 1) = A 67 t) (e2 : P.1 21 (d + 1) = A 68 t) (e3 : P.1 22 (d + 1) = A 69 t) (e4 : P.1 23 (d + 1) = A 70 t) {sp : Nat} (es : P.1 25 (d + 1) = nI sp) (hsp : sp ≤ 100) (eq : A 71 t = nI q) (hq : q ≤ 100)
    (el : (P.1 24 (d + 1) = 0 ∧ A 71 t = nI sp ∧ sp ≤ dp A (o_1 A t) + 1) ∨ (P.1 24 (d + 1) = 1 ∧ A 71 t = nI (dp A (o_1 A t) + 1 + sp))) :
    (needAt A t q = none → ∃ P', k_nn U own n d 2 P = (P', none) ∧ eqA d P P') ∧ ∀ v, needAt A t q = some v → ∃ P', k_nn U own n d 2 P = (P', some (FN P d v)) ∧ eqA d P P' ∧ ∃ sp', P'.1 25 (d + 1) = nI sp' ∧ ((P'.1 24 (d + 1) = 0 ∧ q = sp' ∧ sp' ≤ dp A (o_1 A t)) ∨ (P'.1 24 (d + 1) = 1 ∧ q = dp A (o_1 A t) + 1 + sp')) := by
  have n40 := hob.1
  obtain ⟨o1, hL1⟩ := o1_L1 hk n40
  have d5 := (dp_ok hob hL1).2
  have hk' := hk
  obtain ⟨o, k, h1, ho, h2, hk2, har, hsl⟩ := hk'
  have co : (A 67 t).toNatClampNeg = o := by rw [h1, i_cl (by omega)]
  have ck : (A 68 t).toNatClampNeg = k := by rw [h2, i_cl (by omega)]
  have kk : ∀ m : Nat, m < 22 → (nI k = nI m) = (k = m) := fun m hm => i_eq (by omega) (by omega)
  rw [o1] at el ⊢
  have fn : ∀ P', eqA d P P' → ∀ v, FN P' d v = FN P d v := fun P' e v => by
    unfold FN
    rw [e.1 47 d (Or.inl ⟨by decide, by decide⟩), e.1 45 d (Or.inl ⟨by decide, by decide⟩)]
  unfold needAt
  rcases el with ⟨l1, l2, l3⟩ | ⟨l1, l2⟩
  · have hqs : q = sp := by rw [eq, i_eq (by omega) (by omega)] at l2; exact l2
    subst hqs
    have hl : P.1 24 (d + 1) < 2 := by rw [l1]; decide
    have ep : k_lgP P U own (d + 1) = nI (L_1 A t).1 ∧ k_lgK P (d + 1) (nI (L_1 A t).1) = nI (L_1 A t).2 := by
      unfold L_1
      rw [co, ck]
      by_cases c19 : k = 19
      · obtain ⟨b, b1, b2, b3⟩ := har.2.2.2.2 c19
        have cb : (A 70 t).toNatClampNeg = b := by rw [b3, i_cl (by omega)]
        have e19 : P.1 21 (d + 1) = 19 := by rw [e2, h2, c19]; rfl
        rw [if_pos c19, cb]
        unfold k_lgP k_lgK
        rw [if_pos e19, if_pos e19, if_pos l1, e1, e4, h1, b3]
        by_cases c : o < b
        · rw [if_pos c, if_neg (by rw [i_lt (by omega) (by omega)]; omega), if_pos rfl]; exact ⟨rfl, rfl⟩
        · rw [if_neg c, if_pos (by rw [i_lt (by omega) (by omega)]; omega), if_neg (by rw [i_eq (by omega) (by omega)]; omega)]; exact ⟨rfl, rfl⟩
      · have n19 : ¬ P.1 21 (d + 1) = 19 := fun z => c19 (by rw [e2, h2, show (19 : Int32) = nI 19 from rfl, kk 19 (by omega)] at z; exact z)
        rw [if_neg c19]
        unfold k_lgP k_lgK
        rw [if_neg n19, if_neg n19, if_pos l1, if_neg (fun z => by rw [l1] at z; exact absurd z.2 (by decide)), e1, e2]
        exact ⟨h1, h2⟩
    rw [part_ok (f := 1) hS hob hL1 hl ep.1 ep.2 es e3 hsp]
    by_cases c1 : q ≤ dp A (L_1 A t).1
    · rw [if_pos c1, if_pos c1]
      refine ⟨(fun z => by cases z), fun v hv => ?_⟩
      cases hv
      exact ⟨P, rfl, eqA.rf, q, es, Or.inl ⟨l1, rfl, c1⟩⟩
    · rw [if_neg c1, if_neg c1]
      have q0 : q - (dp A (L_1 A t).1 + 1) = 0 := by omega
      rw [q0]
      have EA : eqA d P (k_nLeg P (d + 1)) := eqA.leg
      have hl1 : (k_nLeg P (d + 1)).1 24 (d + 1) = 1 := by rw [leg_next.1, l1]; rfl
      rw [leg1_ok (f := 0) (sp := 0) (hS.eqA EA) hob hk ((EA.1 _ _ (Or.inl ⟨by decide, by decide⟩)).trans e1) ((EA.1 _ _ (Or.inl ⟨by decide, by decide⟩)).trans e2) ((EA.1 _ _ (Or.inl ⟨by decide, by decide⟩)).trans e3) ((EA.1 _ _ (Or.inl ⟨by decide, by decide⟩)).trans e4) leg_next.2 hl1 (by omega)]
      cases L_2 A t with
      | none => exact ⟨fun _ => ⟨_, rfl, EA.tr eqA.leg⟩, fun v hv => by cases hv⟩
      | some y =>
        dsimp only
        rw [if_pos (Nat.zero_le _), if_pos (Nat.zero_le _)]
        refine ⟨(fun z => by cases z), fun v hv => ?_⟩
        cases hv
        exact ⟨_, by rw [fn _ EA], EA, 0, leg_next.2, Or.inr ⟨hl1, by omega⟩⟩
  · have hqs : q = dp A (L_1 A t).1 + 1 + sp := by rw [eq, i_eq (by omega) (by omega)] at l2; exact l2
    rw [if_neg (by omega), leg1_ok (f := 1) hS hob hk e1 e2 e3 e4 es l1 hsp, show q - (dp A (L_1 A t).1 + 1) = sp by omega]
    cases L_2 A t with
    | none => exact ⟨fun _ => ⟨_, rfl, eqA.leg⟩, fun v hv => by cases hv⟩
    | some y =>
      dsimp only
      by_cases c : sp ≤ dp A y.1
      · rw [if_pos c, if_pos c]
        refine ⟨(fun z => by cases z), fun v hv => ?_⟩
        cases hv
        exact ⟨P, rfl, eqA.rf, sp, es, Or.inr ⟨l1, hqs⟩⟩
      · rw [if_neg c, if_neg c]
        exact ⟨fun _ => ⟨_, rfl, eqA.leg⟩, fun v hv => by cases hv⟩
end RY
