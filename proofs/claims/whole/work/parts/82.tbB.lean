/-! one act undone: the reference's invariants stay -/
section RK
variable {S : m_S} {n b nr na t o k i bb : Nat} {A A' : m_A} {ch : Nat → List Nat}
theorem con_sz {o' : Nat} (h : o' ≠ o ∨ (k ≠ 8 ∧ k ≠ 9)) : y_con i k o bb A 10 o' = A 10 o' := by
  by_cases k8 : k = 8
  · subst k8
    have ho : o' ≠ o := by omega
    simp (decide := true) only [y_con, if_true, if_false, up_s, up_n ho]
  · by_cases k9 : k = 9
    · subst k9
      have ho : o' ≠ o := by omega
      simp (decide := true) only [y_con, if_true, if_false, up_s, up_n ho]
    · simp (decide := true) only [y_con, ite_ap, if_neg k8, if_neg k9, up_n (show 10 ≠ 9 by decide), up_n (show 10 ≠ 12 by decide), up_n (show 10 ≠ 11 by decide), ite_self]
theorem con_th {o' : Nat} (h : o' ≠ o ∨ (k ≠ 12 ∧ k ≠ 13)) : y_con i k o bb A 11 o' = A 11 o' := by
  by_cases k8 : k = 12
  · subst k8
    have ho : o' ≠ o := by omega
    simp (decide := true) only [y_con, if_true, if_false, up_n (show 11 ≠ 12 by decide), up_s, up_n ho]
  · by_cases k9 : k = 13
    · subst k9
      have ho : o' ≠ o := by omega
      simp (decide := true) only [y_con, if_true, if_false, up_n (show 11 ≠ 12 by decide), up_s, up_n ho]
    · simp (decide := true) only [y_con, ite_ap, if_neg k8, if_neg k9, up_n (show 11 ≠ 9 by decide), up_n (show 11 ≠ 12 by decide), up_n (show 11 ≠ 10 by decide), ite_self]
theorem con_8 : y_con i 8 o bb A 10 o = A 10 o - 1 := by simp (decide := true) only [y_con, if_true, if_false, up_s]
theorem con_9 : y_con i 9 o bb A 10 o = A 10 o + 1 := by simp (decide := true) only [y_con, if_true, if_false, up_s]
theorem con_12 : y_con i 12 o bb A 11 o = A 11 o &&& (if A 41 i = 0 then ((1 : Int32) <<< (A 37 i &&& 31)) ^^^ (-1) else -1) := by
  simp (decide := true) only [y_con, if_true, if_false, up_n (show 11 ≠ 12 by decide), up_s]
theorem con_13 : y_con i 13 o bb A 11 o = A 11 o ||| ((1 : Int32) <<< (A 37 i &&& 31)) := by
  simp (decide := true) only [y_con, if_true, if_false, up_n (show 11 ≠ 12 by decide), up_s]
theorem con_thq {q q0 : Nat} (hk : k = 12 ∨ k = 13) (e : A 37 i = nI q0) (h0 : q0 < 8) (hq : q < 8) (ne : q ≠ q0) : k_b (y_con i k o bb A 11 o) q = k_b (A 11 o) q := by
  rcases hk with rfl | rfl
  · rw [con_12, e]
    by_cases c : A 41 i = 0
    · rw [if_pos c]
      have := k_bclr (v := A 11 o) (a := q0) (i := q) (by omega) (by omega)
      unfold k_bit at this
      rw [this, decide_eq_false (Ne.symm ne), Bool.not_false, Bool.and_true]
    · rw [if_neg c, Int32.and_neg_one]
  · rw [con_13, e]
    have := k_bset (v := A 11 o) (a := q0) (i := q) (by omega) (by omega)
    unfold k_bit at this
    rw [this, decide_eq_false (Ne.symm ne), Bool.or_false]
theorem filter_nil {α : Type} {f : α → Bool} {l : List α} (h : ∀ x ∈ l, f x = true → False) : l.filter f = [] := List.filter_eq_nil_iff.mpr (fun x hx hf => h x hx hf)
theorem qs_skip {l : List Nat} (h : ¬ (A 35 i = nI o ∧ (A 36 i = 8 ∨ A 36 i = 9))) : qs A o (i :: l) = qs A o l := by
  unfold qs
  rw [List.filter_cons_of_neg]
  intro z
  simp only [Bool.and_eq_true, Bool.or_eq_true, decide_eq_true_eq] at z
  exact h z
theorem ms_skip {q : Nat} {l : List Nat} (h : ¬ (A 35 i = nI o ∧ (A 36 i = 12 ∨ A 36 i = 13) ∧ A 37 i = nI q)) : ms A o q (i :: l) = ms A o q l := by
  unfold ms
  rw [List.filter_cons_of_neg]
  intro z
  simp only [Bool.and_eq_true, Bool.or_eq_true, decide_eq_true_eq] at z
  exact h ⟨z.1.1, z.1.2, z.2⟩
theorem I_tb {l : List Nat} (h : I_lg n b nr na ch S) (h1 : 1 ≤ t) (h2 : t ≤ b) (hu : undw S.2 t) (hc : ch t = i :: l) (hn : nr ≤ 1500) : w_tb1 t S ∧ I_lg n b (nr + 1) na (up1 ch t l) (y_tb1 t S) := by
  obtain ⟨o, k, ho, hk, eo, ek, har, hh, hcy, e17, e18, e19, e317⟩ := act_of h h1 h2 hu hc
  obtain ⟨g1, g2, g3, g4, g5, g6, g7, g8, g9, g10⟩ := h
  have n40 := g3.1
  have hch := g7 t h1 h2 (Or.inl hu)
  have hdy := g8 t h1 h2 hu
  rw [hc] at hch hdy
  have ei : S.2 53 t = nI i := hch.2.2.1.1
  have hi : i < na := (hch.2.2.2.1 i List.mem_cons_self).1
  have hbb : ∃ bb, bb < 2000000000 ∧ (S.2 38 i).toNatClampNeg = (S.2 38 i).toNatClampNeg ∧ (k = 18 ∨ k = 19 → bb < 40 ∧ S.2 38 i = nI bb) := by
    by_cases c : k = 18
    · obtain ⟨q, q1, q2, _⟩ := e18 c
      exact ⟨q, by omega, rfl, fun _ => ⟨by omega, q2⟩⟩
    · by_cases c2 : k = 19
      · obtain ⟨q, q1, _, q2, _⟩ := e19 c2
        exact ⟨q, by omega, rfl, fun _ => ⟨by omega, q2⟩⟩
      · exact ⟨0, by omega, rfl, fun z => absurd z (by omega)⟩
  obtain ⟨bb, hb1, _, hb2⟩ := hbb
  have ci : (S.2 53 t).toNatClampNeg = i := by rw [ei, i_cl (by omega)]
  have ck : (S.2 36 i).toNatClampNeg = k := by rw [ek, i_cl (by omega)]
  have co : (S.2 35 i).toNatClampNeg = o := by rw [eo, i_cl (by omega)]
  refine ⟨⟨i, k, o, bb, by omega, hk, by omega, hb1, ei, ek, eo, hcy.2.1, fun z => ?_, hb2, ?_⟩, ?_⟩
  · obtain ⟨q, q1, q2, _⟩ := hcy.2.2 z
    exact ⟨q, q1, q2⟩
  · rw [g1]; exact vp_in_nI (by omega) (by omega)
  have rowq := ytb_row (t := t) g1 (by omega)
  have rwe := rw_of rowq.2
  have eA : ∀ f, f ≠ 17 ∧ f ≠ 18 ∧ f ≠ 19 ∧ f ≠ 20 ∧ f ≠ 21 ∧ f ≠ 22 ∧ f ≠ 23 ∧ f ≠ 24 ∧ f ≠ 53 ∧ f ≠ 52 ∧ f ≠ 9 ∧ f ≠ 10 ∧ f ≠ 11 ∧ f ≠ 12 → (y_tb1 t S).2 f = S.2 f := fun f hf => ytb_A hf
  have ace : ac_eq S.2 (y_tb1 t S).2 := ⟨eA _ (by decide), eA _ (by decide), eA _ (by decide), eA _ (by decide), eA _ (by decide), eA _ (by decide), eA _ (by decide), eA _ (by decide), eA _ (by decide)⟩
  have est := eA 47 (by decide)
  have eso := eA 4 (by decide)
  have esz := ytb_V (t := t) (S := S) (f := 10) (by decide)
  have eth := ytb_V (t := t) (S := S) (f := 11) (by decide)
  rw [ci, ck, co] at esz eth
  generalize hbq : (S.2 38 i).toNatClampNeg = bq at esz eth
  have elm := ytb_lm (t := t) (S := S)
  rw [ci] at elm
  have und : ∀ u, undw (y_tb1 t S).2 u ↔ undw S.2 u := fun u => by unfold undw; rw [est]
  have kk : ∀ m : Nat, m < 22 → (S.2 36 i = nI m) = (k = m) := fun m hm => by rw [ek, i_eq (by omega) (by omega)]
  have k8 : (S.2 36 i = 8) = (k = 8) := kk 8 (by omega)
  have k9 : (S.2 36 i = 9) = (k = 9) := kk 9 (by omega)
  have k12 : (S.2 36 i = 12) = (k = 12) := kk 12 (by omega)
  have k13 : (S.2 36 i = 13) = (k = 13) := kk 13 (by omega)
  have oo : ∀ o', o' < 40 → (S.2 35 i = nI o') = (o = o') := fun o' h => by rw [eo, i_eq (by omega) (by omega)]
  have memi : i ∈ ch t := by rw [hc]; exact List.mem_cons_self
  have mdn : md (y_tb1 t S).2 (nr + 1) = n := by
    unfold md
    rw [y_cw_s, Nat.zero_add, rowq.1.1, if_neg (by decide), Nat.add_zero]
    exact (md_cg rwe (Nat.le_refl _)).trans g2.symm
  refine ⟨ytb_r g1, mdn.symm, ?_, (ytb_F (by decide)).trans g4, g5, fun j hj => ?_, fun u u1 u2 hus => ?_, fun u u1 u2 huu => ?_, fun u u' u1 u2 u3 u4 hu1 hu2 hne p hp q hq => ?_, fun x hx => ?_⟩
  · unfold R_ob at g3 ⊢
    rw [eso, eA 7 (by decide), eA 5 (by decide)]
    exact g3
  · by_cases c : j = nr
    · subst c
      refine ⟨fun e => ?_, fun e => ?_, fun e => ?_⟩
      · rw [rowq.1.1] at e; exact absurd e (by decide)
      · rw [rowq.1.1] at e; exact absurd e (by decide)
      · rw [rowq.1.1] at e; exact absurd e (by decide)
    · obtain ⟨r1, r2, r3, r4, r5, r6, r7, r8⟩ := rwe j (by omega)
      exact (g6 j (by omega)).cg r1 r2 r3 r4 r5 r6 r7 (md_cg rwe (by omega)) (fun q _ => by rw [eso]) (fun q _ => by rw [eA 5 (by decide)]) (fun q _ => by rw [eA 6 (by decide)])
  · rw [est] at hus
    rw [und] at hus
    by_cases c : u = t
    · subst c
      rw [up1_s]
      exact hch.tl (by rw [elm.2, up_s]) (by rw [elm.1, up_s]) ace rwe (by omega)
    · rw [up1_n c]
      exact (g7 u u1 u2 hus).cg ace rwe (by omega) (Nat.le_refl _) (by rw [elm.2, up_n c]) (by rw [elm.1, up_n c])
  · rw [und] at huu
    by_cases c : u = t
    · subst c
      rw [up1_s]
      intro o' ho'
      obtain ⟨d1, d2⟩ := hdy o' ho'
      rw [eso]
      refine ⟨fun s4 z hz ez => ?_, fun s5 q hq => ?_⟩
      · rw [qs_cg ace]
        rw [esz] at ez
        refine sw_cg ace.2.2.1 _ _ ?_
        by_cases c2 : o' = o ∧ (k = 8 ∨ k = 9)
        · obtain ⟨rfl, ck2⟩ := c2
          obtain ⟨z0, hz0, ez0⟩ := g10 o' (by omega)
          have w := d1 s4 z0 hz0 ez0
          unfold qs at w
          rw [List.filter_cons_of_pos (by simp only [Bool.and_eq_true, Bool.or_eq_true, decide_eq_true_eq]; exact ⟨eo, by rw [k8, k9]; exact ck2⟩), sw] at w
          rcases ck2 with rfl | rfl
          · rw [if_pos (by rw [k8])] at w
            rw [con_8, ez0, i_s1 (by omega), i_eq (by omega) (by omega)] at ez
            rw [← ez]; exact w.2
          · rw [if_neg (by rw [k8]; decide)] at w
            rw [con_9, ez0, i_a1, i_eq (by omega) (by omega)] at ez
            rw [← ez]; exact w.2
        · have c3 : o' ≠ o ∨ (k ≠ 8 ∧ k ≠ 9) := by omega
          rw [con_sz c3] at ez
          have w := d1 s4 z hz ez
          rw [qs_skip (by rw [k8, k9, oo o' (by omega)]; omega)] at w
          exact w
      · rw [ms_cg ace, eth]
        refine mw_cg ace.2.2.1 ace.2.2.2.2.2.2.2.1 _ _ ?_
        have w := d2 s5 q hq
        by_cases c2 : o' = o ∧ (k = 12 ∨ k = 13)
        · obtain ⟨rfl, ck2⟩ := c2
          obtain ⟨q0, hq0, eq0, hb0⟩ := hcy.2.2 ck2
          by_cases c4 : q = q0
          · subst c4
            unfold ms at w
            rw [List.filter_cons_of_pos (by simp only [Bool.and_eq_true, Bool.or_eq_true, decide_eq_true_eq]; exact ⟨⟨eo, by rw [k12, k13]; exact ck2⟩, eq0⟩), mw] at w
            rcases ck2 with rfl | rfl
            · rw [if_pos (by rw [k12])] at w
              rw [con_12, eq0]
              by_cases c5 : S.2 41 i = 0
              · rw [if_pos c5]
                have := k_bclr (v := S.2 11 o') (a := q) (i := q) (by omega) (by omega)
                unfold k_bit at this
                rw [this, decide_eq_true rfl, Bool.not_true, Bool.and_false]
                have w2 := w.2
                rw [decide_eq_false (fun z => z c5)] at w2
                exact w2
              · rw [if_neg c5, Int32.and_neg_one]
                have w2 := w.2
                rw [decide_eq_true c5] at w2
                rcases w.1 with z | z
                · exact absurd z c5
                · rw [z]; exact w2
            · rw [if_neg (by rw [k12]; decide)] at w
              rw [con_13, eq0]
              have := k_bset (v := S.2 11 o') (a := q) (i := q) (by omega) (by omega)
              unfold k_bit at this
              rw [this, decide_eq_true rfl, Bool.or_true]
              exact w
          · rw [con_thq ck2 eq0 hq0 hq c4]
            rw [ms_skip (fun z => by
              have := z.2.2
              rw [eq0, i_eq (by omega) (by omega)] at this
              omega)] at w
            exact w
        · have c3 : o' ≠ o ∨ (k ≠ 12 ∧ k ≠ 13) := by omega
          rw [con_th c3]
          rw [ms_skip (by rw [k12, k13, oo o' (by omega)]; omega)] at w
          exact w
    · rw [up1_n c]
      refine (g8 u u1 u2 huu).cg ace eso (fun o' ho' => ?_) (fun o' ho' q hq => ?_)
      · rw [esz]
        by_cases c2 : o' = o ∧ (k = 8 ∨ k = 9)
        · refine Or.inr (filter_nil (fun j hj hf => ?_))
          simp only [Bool.and_eq_true, Bool.or_eq_true, decide_eq_true_eq] at hf
          refine g9 t u h1 h2 u1 u2 hu huu (Ne.symm c) i memi j hj ⟨?_, Or.inl ⟨by rw [k8, k9]; exact c2.2, hf.2⟩⟩
          rw [eo, hf.1, c2.1]
        · exact Or.inl (con_sz (by omega))
      · rw [eth]
        by_cases c2 : o' = o ∧ (k = 12 ∨ k = 13)
        · obtain ⟨q0, hq0, eq0, hb0⟩ := hcy.2.2 c2.2
          by_cases c4 : q = q0
          · refine Or.inr (filter_nil (fun j hj hf => ?_))
            simp only [Bool.and_eq_true, Bool.or_eq_true, decide_eq_true_eq] at hf
            refine g9 t u h1 h2 u1 u2 hu huu (Ne.symm c) i memi j hj ⟨?_, Or.inr ⟨by rw [k12, k13]; exact c2.2, hf.1.2, ?_⟩⟩
            · rw [eo, hf.1.1, c2.1]
            · rw [eq0, hf.2, c4]
          · rw [c2.1]
            exact Or.inl (con_thq c2.2 eq0 hq0 hq c4)
        · exact Or.inl (by rw [con_th (by omega)])
  · rw [und] at hu1 hu2
    have sub : ∀ u, ∀ p ∈ up1 ch t l u, p ∈ ch u := fun u p hp => by
      by_cases c : u = t
      · subst c; rw [up1_s] at hp; rw [hc]; exact List.mem_cons_of_mem _ hp
      · rw [up1_n c] at hp; exact hp
    have := g9 u u' u1 u2 u3 u4 hu1 hu2 hne p (sub u p hp) q (sub u' q hq)
    unfold xc at this ⊢
    rw [ace.2.1, ace.2.2.1, ace.2.2.2.1]
    exact this
  · rw [esz]
    obtain ⟨z, hz, ez⟩ := g10 x hx
    by_cases c2 : x = o ∧ (k = 8 ∨ k = 9)
    · obtain ⟨rfl, ck2⟩ := c2
      rcases ck2 with rfl | rfl
      · obtain ⟨z', z1, z2, z3⟩ := hcy.1 rfl
        exact ⟨z' - 1, by omega, by rw [con_8, z3, i_s1 (by omega)]⟩
      · obtain ⟨z', z1, z3⟩ := hcy.2.1 rfl
        exact ⟨z' + 1, by omega, by rw [con_9, z3, i_a1]⟩
    · rw [con_sz (by omega)]; exact ⟨z, hz, ez⟩
end RK
