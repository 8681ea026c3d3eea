/-! an act is done: log and acts of the reference -/
section TH
variable {S S' : m_S} {A A' : m_A} {n b nr na t o k i : Nat} {ch : Nat → List Nat} {l : List Nat}
/-- the acts so far -/
def acp (na : Nat) (A A' : m_A) : Prop := ∀ i, i < na → A' 42 i = A 42 i ∧ A' 35 i = A 35 i ∧ A' 36 i = A 36 i ∧ A' 37 i = A 37 i ∧ A' 38 i = A 38 i ∧ A' 39 i = A 39 i ∧ A' 40 i = A 40 i ∧ A' 41 i = A 41 i ∧ A' 43 i = A 43 i
theorem acp_ar (h : acp na A A') (hi : i < na) : ar A' i = ar A i := by unfold ar; rw [(h i hi).1]
theorem acp_act {nr' na' : Nat} (h : I_act nr na A t i) (ha : acp na A A') (hr : rw_eq nr A A') (hn : nr ≤ nr') (hna : na ≤ na') : I_act nr' na' A' t i := by
  obtain ⟨a1, a2, a3, a4, a5, a6, a7, a8, a9, b1, b2, b3⟩ := h
  obtain ⟨r1, r2, r3, r4, r5, r6, r7, r8⟩ := hr _ a3
  obtain ⟨c1, c2, c3, c4, c5, c6, c7, c8, c9⟩ := ha i a1
  unfold I_act
  rw [acp_ar ha a1, c1, c2, c3, c4, c5, c6, c7, c8, r1, r2, r3, r4, r5, r6, r7]
  exact ⟨by omega, a2, by omega, a4, a5, a6, a7, a8, a9, b1, b2, b3⟩
theorem acp_chn {nr' na' : Nat} (h : I_chn nr na A t l) (ha : acp na A A') (hr : rw_eq nr A A') (hn : nr ≤ nr') (hna : na ≤ na') (e1 : A' 52 t = A 52 t) (e2 : A' 53 t = A 53 t) : I_chn nr' na' A' t l := by
  obtain ⟨a1, a2, a3, a4, a5⟩ := h
  refine ⟨by rw [e1]; exact a1, a2, by rw [e2]; exact cl_cg l _ (fun i hi => by rw [(ha i (a4 i hi).1).2.2.2.2.2.2.2.2]) a3, fun i hi => acp_act (a4 i hi) ha hr hn hna, ?_⟩
  exact a5.imp_of_mem (fun {x y} hx hy h => by rw [acp_ar ha (a4 x hx).1, acp_ar ha (a4 y hy).1]; exact h)
theorem acp_qs (ha : acp na A A') (hl : ∀ i ∈ l, i < na) : qs A' o l = qs A o l := List.filter_congr (fun i hi => by obtain ⟨_, c2, c3, _⟩ := ha i (hl i hi); rw [c2, c3])
theorem acp_ms (ha : acp na A A') {q : Nat} (hl : ∀ i ∈ l, i < na) : ms A' o q l = ms A o q l := List.filter_congr (fun i hi => by obtain ⟨_, c2, c3, c4, _⟩ := ha i (hl i hi); rw [c2, c3, c4])
theorem acp_sw (ha : acp na A A') : ∀ (l : List Nat) (z : Nat), (∀ i ∈ l, i < na) → (sw A' z l ↔ sw A z l)
  | [], _, _ => Iff.rfl
  | i :: l, z, hl => by
    have hl' : ∀ i ∈ l, i < na := fun j hj => hl j (List.mem_cons_of_mem _ hj)
    unfold sw
    rw [(ha i (hl i (List.mem_cons_self ..))).2.2.1]
    split
    · rw [acp_sw ha l _ hl']
    · rw [acp_sw ha l _ hl']
theorem acp_mw (ha : acp na A A') : ∀ (l : List Nat) (z : Bool), (∀ i ∈ l, i < na) → (mw A' z l ↔ mw A z l)
  | [], _, _ => Iff.rfl
  | i :: l, z, hl => by
    have hl' : ∀ i ∈ l, i < na := fun j hj => hl j (List.mem_cons_of_mem _ hj)
    unfold mw
    rw [(ha i (hl i (List.mem_cons_self ..))).2.2.1, (ha i (hl i (List.mem_cons_self ..))).2.2.2.2.2.2.2.1]
    split
    · rw [acp_mw ha l _ hl']
    · rw [acp_mw ha l _ hl']
theorem acp_xc (ha : acp na A A') {j : Nat} (hi : i < na) (hj : j < na) : xc A' i j ↔ xc A i j := by
  obtain ⟨_, c2, c3, c4, _⟩ := ha i hi
  obtain ⟨_, d2, d3, d4, _⟩ := ha j hj
  unfold xc
  rw [c2, c3, c4, d2, d3, d4]
theorem cf_q {k k2 a a2 : Int32} (h : k = 8 ∨ k = 9) (h2 : k2 = 8 ∨ k2 = 9) : y_cf 4 4 k a 4 k2 a2 = true := by
  rcases h with rfl | rfl <;> rcases h2 with rfl | rfl <;> simp (decide := true) [y_cf, y_ag, y_com, y_rd]
theorem cf_m {k k2 a : Int32} (h : k = 12 ∨ k = 13) (h2 : k2 = 12 ∨ k2 = 13) : y_cf 5 4 k a 4 k2 a = true := by
  rcases h with rfl | rfl <;> rcases h2 with rfl | rfl <;> simp (decide := true) [y_cf, y_ag, y_com, y_rd]
theorem bt_b {v : Int32} {q : Nat} (hq : q < 32) : bt v q = k_b v q := by
  unfold bt
  cases h : k_b v q
  · exact decide_eq_false (fun z => by rw [k_and1, k_bshr hq, h] at z; cases z)
  · exact decide_eq_true (by rw [k_and1, k_bshr hq]; exact h)
/-- the log and the acts when one more is done -/
theorem I_lg.did (h : I_lg n b nr na ch S) (h1 : 1 ≤ t) (h2 : t ≤ b) (hu : undw S.2 t) (ho : o < n) (hk : k < 22) {a bb c bq : Int32} {F0 : Nat → Int32} {W : Int32 × m_S} (hw : wk_R o k a bq (F0, S.2) W) (hf : W.2.1 25 = 0) (hn : nr ≤ 1500) (hna : na < 512)
    (rws : S'.1 13 = nI (nr + 1)) (rwe : rw_eq nr S.2 S'.2) (rwn : rowAt S'.2 nr 2 (nI t) (nI o) (nI k) a bb c (-1)) (acts : S'.1 33 = nI (na + 1)) (ha : acp na S.2 S'.2)
    (anew : S'.2 42 na = nI nr ∧ S'.2 35 na = nI o ∧ S'.2 36 na = nI k ∧ S'.2 37 na = a ∧ S'.2 38 na = bb ∧ S'.2 39 na = c ∧ S'.2 41 na = W.2.1 27 ∧ S'.2 43 na = S.2 53 t) (abef : k = 3 ∨ k = 17 → c = S'.2 40 na)
    (lat : S'.2 53 = va_up (S.2 53) t (nI na)) (man : S'.2 52 = va_up (S.2 52) t (S.2 52 t + 1)) (esz : S'.2 10 = W.2.2 10) (eth : S'.2 11 = W.2.2 11) (eA : ∀ f ∈ [4, 5, 7, 6, 47], S'.2 f = S.2 f)
    (had : W.2.1 27 = 0 ∨ W.2.1 27 = 1) (hh : y_has (S.2 4 o) (nI k) = true) (har : ar_R n o k a bb) (e17 : k = 17 → c = -1 ∨ ∃ q, q < n ∧ c = nI q) (e18 : k = 18 → ∃ q, q < n ∧ bb = nI q ∧ (S.2 4 q = 1 ∨ S.2 4 q = 6)) (e19 : k = 19 → ∃ q, q < n ∧ q ≠ o ∧ bb = nI q ∧ S.2 4 q = 6)
    (hx : ∀ u, 1 ≤ u → u ≤ b → undw S.2 u → u ≠ t → ∀ j ∈ ch u, S.2 35 j = nI o → ((k = 8 ∨ k = 9) → ¬ (S.2 36 j = 8 ∨ S.2 36 j = 9)) ∧ ((k = 12 ∨ k = 13) → (S.2 36 j = 12 ∨ S.2 36 j = 13) → ¬ S.2 37 j = a)) :
    I_lg n b (nr + 1) (na + 1) (up1 ch t (na :: ch t)) S' := by
  obtain ⟨g1, g2, g3, g4, g5, g6, g7, g8, g9, g10⟩ := h
  have n40 := g3.1
  obtain ⟨x1, x2, x3, x4, x5, x6, x7, x8⟩ := anew
  unfold wk_R at hw
  dsimp only at hw
  obtain ⟨w1, w2, w3, w4, w5, w6, w7⟩ := hw
  have es := eA 4 (by decide)
  have est := eA 47 (by decide)
  have un : ∀ u, undw S'.2 u ↔ undw S.2 u := fun u => by unfold undw; rw [est]
  have us : ∀ u, undw S'.2 u ∨ S'.2 47 u = 3 ↔ undw S.2 u ∨ S.2 47 u = 3 := fun u => by unfold undw; rw [est]
  have hch := g7 t h1 h2 (Or.inl hu)
  have lt : ∀ u, 1 ≤ u → u ≤ b → undw S.2 u ∨ S.2 47 u = 3 → ∀ j ∈ ch u, j < na := fun u u1 u2 hu j hj => ((g7 u u1 u2 hu).2.2.2.1 j hj).1
  have arn : ar S'.2 na = nr := by unfold ar; rw [x1, i_cl (by omega)]
  have w0 : ¬ S'.2 17 nr = 0 := by rw [rwn.1]; decide
  have mdn : md S'.2 (nr + 1) = n := by
    unfold md
    rw [y_cw_s, Nat.zero_add, if_neg w0, Nat.add_zero]
    exact (md_cg rwe (Nat.le_refl _)).trans g2.symm
  have mdr : md S'.2 nr = n := (md_cg rwe (Nat.le_refl _)).trans g2.symm
  have kk : ∀ m : Nat, m < 22 → (nI k = nI m) = (k = m) := fun m hm => i_eq (by omega) (by omega)
  have k8 : (nI k = 8) = (k = 8) := kk 8 (by omega)
  have k9 : (nI k = 9) = (k = 9) := kk 9 (by omega)
  have k12 : (nI k = 12) = (k = 12) := kk 12 (by omega)
  have k13 : (nI k = 13) = (k = 13) := kk 13 (by omega)
  have s4 : k = 8 ∨ k = 9 → S.2 4 o = 4 := fun z => by
    rcases z with rfl | rfl
    · rw [show nI 8 = 8 from rfl, yh_8] at hh; simpa using hh
    · rw [show nI 9 = 9 from rfl, yh_9] at hh; simpa using hh
  have s5 : k = 12 ∨ k = 13 → S.2 4 o = 5 := fun z => by
    rcases z with rfl | rfl
    · rw [show nI 12 = 12 from rfl, yh_12] at hh; simpa using hh
    · rw [show nI 13 = 13 from rfl, yh_13] at hh; simpa using hh
  -- sizes and bits, old and new
  have szn : ∀ o', (o' = o → ¬ (k = 8 ∨ k = 9)) → S'.2 10 o' = S.2 10 o' := fun o' hne => by
    rw [esz]
    rcases w6 with z | z | z
    · rw [z.1]
    · rw [z.2.2.2, up_n (fun e => hne e (Or.inl z.2.1))]
    · rw [z.2.2.2, up_n (fun e => hne e (Or.inr z.2.1))]
  have thn : ∀ o' q, q < 8 → (o' = o → (k = 12 ∨ k = 13) → ¬ a = nI q) → k_b (S'.2 11 o') q = k_b (S.2 11 o') q := fun o' q hq hne => by
    rw [eth]
    by_cases co : o' = o
    · by_cases ck : k = 12 ∨ k = 13
      · obtain ⟨qa, qa1, qa2⟩ := har.2.1 (by omega) (by omega)
        have nq : ¬ qa = q := fun e => hne co ck (by rw [qa2, e])
        rw [co]
        rcases w7 with z | z | z
        · rw [z.1]
        · rw [z.2.2.1, up_s, qa2, i_cl (by omega)]
          have := k_bset (v := S.2 11 o) (a := qa) (i := q) (by omega) (by omega)
          unfold k_bit at this
          rw [this, decide_eq_false nq, Bool.or_false]
        · rw [z.2.2.2, up_s, qa2, i_cl (by omega)]
          have := k_bclr (v := S.2 11 o) (a := qa) (i := q) (by omega) (by omega)
          unfold k_bit at this
          rw [this, decide_eq_false nq, Bool.not_false, Bool.and_true]
      · rcases w7 with z | z | z
        · rw [z.1]
        · exact absurd (Or.inl z.2.1) ck
        · exact absurd (Or.inr z.2.1) ck
    · rcases w7 with z | z | z
      · rw [z.1]
      · rw [z.2.2.1, up_n co]
      · rw [z.2.2.2, up_n co]
  refine ⟨rws, mdn.symm, ?_, acts, by omega, fun j hj => ?_, fun u u1 u2 hus => ?_, fun u u1 u2 hus => ?_, fun u u' u1 u2 u3 u4 v1 v2 hne p hp q hq => ?_, fun x hx' => ?_⟩
  · unfold R_ob at g3 ⊢; rw [es, eA 7 (by decide), eA 5 (by decide)]; exact g3
  · by_cases c : j < nr
    · obtain ⟨r1, r2, r3, r4, r5, r6, r7, r8⟩ := rwe j c
      exact (g6 j c).cg r1 r2 r3 r4 r5 r6 r7 (md_cg rwe (by omega)) (fun q _ => by rw [es]) (fun q _ => by rw [eA 5 (by decide)]) (fun q _ => by rw [eA 6 (by decide)])
    · have ej : j = nr := by omega
      subst ej
      obtain ⟨r1, r2, r3, r4, r5, r6, r7, r8⟩ := rwn
      refine ⟨fun z => absurd z w0, fun _ => ⟨t, o, k, r2, h1, h2, r3, by rw [mdr]; exact ho, r4, hk, ?_, by rw [es]; exact hh, ?_, ?_, ?_⟩, fun z => by rw [r1] at z; exact absurd z (by decide)⟩
      · rw [mdr, r5, r6]; exact har
      · rw [mdr, r7]; exact e17
      · rw [mdr, r6, es]; exact e18
      · rw [mdr, r6, es]; exact e19
  · by_cases c : u = t
    · subst c
      rw [up1_s]
      obtain ⟨c1, c2, c3, c4, c5⟩ := hch
      have nd : (ch u).Nodup := c5.imp (fun {x y} h e => by rw [e] at h; omega)
      have len := nodup_len na (ch u) nd (fun j hj => (c4 j hj).1)
      have c4' : ∀ i ∈ ch u, I_act (nr + 1) (na + 1) S'.2 u i := fun i hi => acp_act (c4 i hi) ha rwe (by omega) (by omega)
      refine ⟨?_, by rw [List.length_cons]; omega, ?_, fun j hj => ?_, ?_⟩
      · rw [man, up_s, c1, i_a1, List.length_cons]
      · rw [lat, up_s]
        refine ⟨rfl, ?_⟩
        rw [x8]
        exact cl_cg (ch u) _ (fun i hi => by rw [(ha i (c4 i hi).1).2.2.2.2.2.2.2.2]) c3
      · rcases List.mem_cons.mp hj with z | z
        · subst z
          unfold I_act
          rw [arn, x1, x2, x3, x4, x5, x6, x7]
          obtain ⟨r1, r2, r3, r4, r5, r6, r7, r8⟩ := rwn
          refine ⟨by omega, rfl, by omega, r1, r2, r3.symm, r4.symm, r5.symm, r6.symm, r7.symm, fun z => abef ?_, had⟩
          rw [show (3 : Int32) = nI 3 from rfl, show (17 : Int32) = nI 17 from rfl, kk 3 (by omega), kk 17 (by omega)] at z
          exact z
        · exact c4' j z
      · rw [List.pairwise_cons]
        refine ⟨fun j hj => ?_, c5.imp_of_mem (fun {x y} hx hy h => by rw [acp_ar ha (c4 x hx).1, acp_ar ha (c4 y hy).1]; exact h)⟩
        rw [arn, acp_ar ha (c4 j hj).1]
        exact (c4 j hj).2.2.1
    · rw [up1_n c]
      exact acp_chn (g7 u u1 u2 ((us u).mp hus)) ha rwe (by omega) (by omega) (by rw [man, up_n c]) (by rw [lat, up_n c])
  · have hus' := (un u).mp hus
    have ltu := lt u u1 u2 (Or.inl hus')
    have old := g8 u u1 u2 hus'
    by_cases c : u = t
    · subst c
      rw [up1_s]
      intro o' ho'
      obtain ⟨q1, q2⟩ := old o' ho'
      rw [es]
      refine ⟨fun z4 z hz ez => ?_, fun z5 q hq => ?_⟩
      · by_cases co : o' = o ∧ (k = 8 ∨ k = 9)
        · obtain ⟨co, ck⟩ := co
          subst co
          have eq : qs S'.2 o' (na :: ch u) = na :: qs S.2 o' (ch u) := by
            rw [← acp_qs ha ltu]
            unfold qs
            rw [List.filter_cons_of_pos]
            rw [x2, x3]
            simp only [k8, k9, decide_true, Bool.true_and, Bool.or_eq_true, decide_eq_true_eq]
            exact ck
          rw [eq]
          unfold sw
          rw [x3]
          obtain ⟨z0, hz0, ez0⟩ := g10 o' (by omega)
          rcases w6 with w | w | w
          · exact absurd ⟨hf, ck⟩ w.2
          · rw [if_pos (by rw [k8]; exact w.2.1)]
            have zz : z = z0 + 1 := by
              rw [esz, w.2.2.2, up_s, ez0, i_a1, i_eq (by omega) (by omega)] at ez
              exact ez.symm
            rw [zz]
            refine ⟨by omega, ?_⟩
            rw [Nat.add_sub_cancel]
            exact (acp_sw ha _ _ (fun i hi => ltu i (List.mem_filter.mp hi).1)).mpr (q1 z4 z0 hz0 ez0)
          · rw [if_neg (by rw [k8]; omega)]
            have z1 : ¬ z0 = 0 := fun e => w.2.2.1 (by rw [ez0, e]; rfl)
            have zz : z = z0 - 1 := by
              rw [esz, w.2.2.2, up_s, ez0, show z0 = z0 - 1 + 1 by omega, ← i_a1, Int32.add_sub_cancel, i_eq (by omega) (by omega)] at ez
              exact ez.symm
            rw [zz, show z0 - 1 + 1 = z0 by omega]
            exact ⟨by omega, (acp_sw ha _ _ (fun i hi => ltu i (List.mem_filter.mp hi).1)).mpr (q1 z4 z0 hz0 ez0)⟩
        · rw [qs_skip (fun y => co ⟨by rw [x2, i_eq (by omega) (by omega)] at y; exact y.1.symm, by rw [x3, k8, k9] at y; exact y.2⟩), acp_qs ha ltu]
          refine (acp_sw ha _ _ (fun i hi => ltu i (List.mem_filter.mp hi).1)).mpr (q1 z4 z hz ?_)
          rw [← szn o' (fun e y => co ⟨e, y⟩)]; exact ez
      · by_cases co : o' = o ∧ (k = 12 ∨ k = 13) ∧ a = nI q
        · obtain ⟨co, ck, ca⟩ := co
          subst co
          have eq : ms S'.2 o' q (na :: ch u) = na :: ms S.2 o' q (ch u) := by
            rw [← acp_ms ha ltu]
            unfold ms
            rw [List.filter_cons_of_pos]
            rw [x2, x3, x4, ca]
            simp only [k12, k13, decide_true, Bool.true_and, Bool.and_true, Bool.or_eq_true, decide_eq_true_eq]
            exact ck
          rw [eq]
          unfold mw
          rw [x3, x7]
          have aq : a.toNatClampNeg = q := by rw [ca, i_cl (by omega)]
          have oldq := q2 z5 q hq
          rcases w7 with w | w | w
          · exact absurd ⟨hf, ck⟩ w.2
          · rw [if_pos (by rw [k12]; exact w.2.1), w.2.2.2, aq, bt_b (by omega)]
            refine ⟨Or.inr ?_, ?_⟩
            · rw [eth, w.2.2.1, up_s, aq]
              have := k_bset (v := S.2 11 o') (a := q) (i := q) (by omega) (by omega)
              unfold k_bit at this
              rw [this, decide_eq_true rfl, Bool.or_true]
            · have e2 : decide (¬ b_v (k_b (S.2 11 o') q) = 0) = k_b (S.2 11 o') q := by cases k_b (S.2 11 o') q <;> rfl
              rw [e2]
              exact (acp_mw ha _ _ (fun i hi => ltu i (List.mem_filter.mp hi).1)).mpr oldq
          · rw [if_neg (by rw [k12]; omega)]
            have e2 := w.2.2.1
            rw [aq, bt_b (by omega)] at e2
            rw [e2] at oldq
            exact (acp_mw ha _ _ (fun i hi => ltu i (List.mem_filter.mp hi).1)).mpr oldq
        · rw [ms_skip (fun y => co ⟨by rw [x2, i_eq (by omega) (by omega)] at y; exact y.1.symm, by rw [x3, k12, k13] at y; exact y.2.1, by rw [x4] at y; exact y.2.2⟩), acp_ms ha ltu, thn o' q hq (fun e y1 y2 => co ⟨e, y1, y2⟩)]
          exact (acp_mw ha _ _ (fun i hi => ltu i (List.mem_filter.mp hi).1)).mpr (q2 z5 q hq)
    · rw [up1_n c]
      intro o' ho'
      obtain ⟨q1, q2⟩ := old o' ho'
      rw [es, acp_qs ha ltu]
      refine ⟨fun z4 z hz ez => ?_, fun z5 q hq => ?_⟩
      · by_cases co : o' = o ∧ (k = 8 ∨ k = 9)
        · have : qs S.2 o' (ch u) = [] := filter_nil (fun j hj e => by
            rw [Bool.and_eq_true, Bool.or_eq_true, decide_eq_true_eq, decide_eq_true_eq, decide_eq_true_eq] at e
            exact (hx u u1 u2 hus' c j hj (by rw [e.1, co.1])).1 co.2 e.2)
          rw [this]
          trivial
        · refine (acp_sw ha _ _ (fun i hi => ltu i (List.mem_filter.mp hi).1)).mpr (q1 z4 z hz ?_)
          rw [← szn o' (fun e y => co ⟨e, y⟩)]; exact ez
      · rw [acp_ms ha ltu]
        by_cases co : o' = o ∧ (k = 12 ∨ k = 13) ∧ a = nI q
        · have : ms S.2 o' q (ch u) = [] := filter_nil (fun j hj e => by
            rw [Bool.and_eq_true, Bool.and_eq_true, Bool.or_eq_true, decide_eq_true_eq, decide_eq_true_eq, decide_eq_true_eq, decide_eq_true_eq] at e
            exact (hx u u1 u2 hus' c j hj (by rw [e.1.1, co.1])).2 co.2.1 e.1.2 (by rw [e.2, co.2.2]))
          rw [this]
          trivial
        · rw [thn o' q hq (fun e y1 y2 => co ⟨e, y1, y2⟩)]
          exact (acp_mw ha _ _ (fun i hi => ltu i (List.mem_filter.mp hi).1)).mpr (q2 z5 q hq)
  · -- two deals
    have v1' := (un u).mp v1
    have v2' := (un u').mp v2
    have nxt : ∀ w j, 1 ≤ w → w ≤ b → undw S.2 w → w ≠ t → j ∈ ch w → ¬ xc S'.2 na j ∧ ¬ xc S'.2 j na := fun w j y1 y2 y3 y4 y5 => by
      obtain ⟨_, d2, d3, d4, _⟩ := ha j (lt w y1 y2 (Or.inl y3) j y5)
      have base := hx w y1 y2 y3 y4 j y5
      refine ⟨fun z => ?_, fun z => ?_⟩
      · unfold xc at z
        rw [x2, x3, x4, d2, d3, d4, k8, k9, k12, k13] at z
        obtain ⟨z1, z2⟩ := z
        obtain ⟨b1, b2⟩ := base z1.symm
        rcases z2 with z2 | z2
        · exact b1 z2.1 z2.2
        · exact b2 z2.1 z2.2.1 z2.2.2.symm
      · unfold xc at z
        rw [x2, x3, x4, d2, d3, d4, k8, k9, k12, k13] at z
        obtain ⟨z1, z2⟩ := z
        obtain ⟨b1, b2⟩ := base z1
        rcases z2 with z2 | z2
        · exact b1 z2.2 z2.1
        · exact b2 z2.2.1 z2.1 z2.2.2
    by_cases c : u = t
    · subst c
      rw [up1_s] at hp
      rw [up1_n (Ne.symm hne)] at hq
      rcases List.mem_cons.mp hp with z | z
      · rw [z]; exact (nxt u' q u3 u4 v2' (Ne.symm hne) hq).1
      · rw [acp_xc ha (lt u u1 u2 (Or.inl v1') p z) (lt u' u3 u4 (Or.inl v2') q hq)]
        exact g9 u u' u1 u2 u3 u4 v1' v2' hne p z q hq
    · rw [up1_n c] at hp
      by_cases c' : u' = t
      · subst c'
        rw [up1_s] at hq
        rcases List.mem_cons.mp hq with z | z
        · rw [z]; exact (nxt u p u1 u2 v1' c hp).2
        · rw [acp_xc ha (lt u u1 u2 (Or.inl v1') p hp) (lt u' u3 u4 (Or.inl v2') q z)]
          exact g9 u u' u1 u2 u3 u4 v1' v2' hne p hp q z
      · rw [up1_n c'] at hq
        rw [acp_xc ha (lt u u1 u2 (Or.inl v1') p hp) (lt u' u3 u4 (Or.inl v2') q hq)]
        exact g9 u u' u1 u2 u3 u4 v1' v2' hne p hp q hq
  · obtain ⟨z, hz, ez⟩ := g10 x hx'
    by_cases co : x = o ∧ (k = 8 ∨ k = 9)
    · obtain ⟨co, ck⟩ := co
      subst co
      rw [esz]
      rcases w6 with w | w | w
      · exact ⟨z, hz, by rw [w.1]; exact ez⟩
      · refine ⟨z + 1, ?_, by rw [w.2.2.2, up_s, ez, i_a1]⟩
        have : ¬ z = 8 := fun e => w.2.2.1 (by rw [ez, e]; rfl)
        omega
      · have : ¬ z = 0 := fun e => w.2.2.1 (by rw [ez, e]; rfl)
        refine ⟨z - 1, by omega, ?_⟩
        rw [w.2.2.2, up_s, ez, show z = z - 1 + 1 by omega, ← i_a1, Int32.add_sub_cancel]
        rfl
    · exact ⟨z, hz, by rw [szn x (fun e y => co ⟨e, y⟩)]; exact ez⟩
end TH
