/-! an act on a shelf: class and reference alike -/
section RG
variable {Z : k_Z} {U : k_U} {P P' P'' P1 : k_P} {S S' S'' S1 : m_S} {s n x0 o k : Nat} {A : Nat → Nat → Int32}
def perf_R (U : k_U) (s n x0 k o : Nat) (P : k_P) (S : m_S) (P' : k_P) (W : Int32 × m_S) : Prop :=
  R_sh P' U s n W.2.2 x0 ∧ R_rp (s + 2) P' W.2 ∧ P'.1 101 (s + 2) = W.2.1 25 ∧ (W.2.1 25 = 0 → P'.1 100 (s + 2) = W.1) ∧ sv_R k P' (s + 2) W.1 W.2 ∧ fr_S U s n P P' ∧ fr_N x0 n S W.2 ∧ (k = 18 → W.2.1 25 = 0 → ∃ q, q < n ∧ S.2 9 (x0 + o) = nI q ∧ W.2.1 26 = nI q)
theorem op_pre.F {p x j : Nat} {s : Int32} {F : Nat → Int32} (h : op_pre p x j s P (F, A)) {f : Nat} {v : Int32} (hf : f = 28 ∨ f = 26 ∨ f = 27) : op_pre p x j s P (va_up F f v, A) := by
  obtain ⟨a, b, c, d, e, g, i⟩ := h
  have n1 : 25 ≠ f := by omega
  have n2 : 29 ≠ f := by omega
  have n3 : 30 ≠ f := by omega
  have n4 : 8 ≠ f := by omega
  refine ⟨a, b.cg rfl rfl (up_n n2) (up_n n3) rfl, c, (up_n n1).trans d, e, ?_, i⟩
  unfold y_sort at g ⊢
  dsimp only
  rw [up_n n4]
  exact g
theorem ym_v {x : Nat} {a : Int64} (h6 : y_sort S.1 S.2 x = 6) (hf : (y_more x a S).1 25 = 0) : (y_more x a S).2 9 x = ((S.2 9 x).toInt64 + a).toInt32 := by
  unfold y_more at hf ⊢
  rw [h6] at hf ⊢
  rw [if_neg (by decide)] at hf ⊢
  by_cases c1 : (S.2 9 x).toInt64 + a < 0
  · rw [if_pos c1] at hf
    dsimp only at hf
    rw [up_s] at hf
    exact absurd hf (by decide)
  · rw [if_neg c1] at hf ⊢
    by_cases c2 : 1000000000 < (S.2 9 x).toInt64 + a
    · rw [if_pos c2] at hf
      dsimp only at hf
      rw [up_s] at hf
      exact absurd hf (by decide)
    · rw [if_neg c2]
      dsimp only
      rw [up_s, up_s]
theorem perf_ok (hR : R_sh P U s n S.2 x0) (hs : k_Sh Z P U s n) (ap : R_ap U s n) (hob : R_ob n S.2) (hx : x0 = 0 ∨ x0 = 40 ∨ x0 = 80) (ho : o < n) (hk : k < 22) {a b : Int32} (hr : S.1 29 = 0 ∨ S.1 30 = 0)
    (har : ar_R n o k a b) (h20 : k = 20 → S.1 32 = nI n) :
    perf_R U s n x0 k o P S (k_perf P U s n o (nI k) a b) (y_work (x0 + o) k a b S) := by
  have hn := hob.1
  have ho40 : o < 40 := by omega
  have fC : ∀ y, fr_C (s + 2) y P (k_clear P (s + 2)) := fun y => by
    unfold k_clear
    exact (((fr_C.rf.wrp (by decide)).wrp (by decide)).wrp (by decide)).wrp (by decide)
  have fM : ∀ i, fr_M i S (va_up (va_up S.1 25 0) 28 (S.2 9 (x0 + o)), S.2) := fun i => fr_M.F (fr_M.F fr_M.rfE (by decide)) (by decide)
  have kc : ∀ f, f = 220 ∨ f = 221 ∨ f = 222 ∨ f = 223 → ∀ y, (k_clear P (s + 2)).1 f y = P.1 f y := fun f hf y => kcl_1 (by omega) (by omega) (by omega) (by omega)
  have cf : (k_clear P (s + 2)).1 101 (s + 2) = 0 := by unfold k_clear; rw [k_rn (by decide), k_rn (by decide), k_rs]
  have ct : (k_clear P (s + 2)).1 103 (s + 2) = 0 := by unfold k_clear; rw [k_rs]
  have c2 : (k_clear P (s + 2)).2 = P.2 := by unfold k_clear; rfl
  have hb0 : S.2 9 (x0 + o) = S.2 9 (x0 + o) := rfl
  unfold k_perf y_work
  rw [y_sort_o hx ho40, (hR o ho).1, show y_isIn (nI k) 0 21 = true from in_tr (nI_pos' (by omega)) (by rw [il_ge_21 (by omega)]; omega), Bool.true_and]
  generalize hP0 : k_clear P (s + 2) = P0 at fC kc cf ct c2
  generalize hS0 : (va_up (va_up S.1 25 0) 28 (S.2 9 (x0 + o)), S.2) = S0 at fM
  have s2 : S0.2 = S.2 := by rw [← hS0]
  have sf : S0.1 25 = 0 := by rw [← hS0]; dsimp only; rw [up_n (by decide), up_s]
  have sb : S0.1 28 = S.2 9 (x0 + o) := by rw [← hS0]; dsimp only; rw [up_s]
  have st : S0.1 29 = S.1 29 ∧ S0.1 30 = S.1 30 ∧ S0.1 32 = S.1 32 := by
    rw [← hS0]; dsimp only
    exact ⟨by rw [up_n (by decide), up_n (by decide)], by rw [up_n (by decide), up_n (by decide)], by rw [up_n (by decide), up_n (by decide)]⟩
  have hR0 : R_sh P0 U s n S0.2 x0 := by
    rw [s2]
    exact hR.keep (fun f hf o _ => kc f hf _) (fun o _ => by rw [c2]) rfl rfl rfl (fun _ _ => ⟨rfl, rfl, rfl⟩) (fun _ _ _ => rfl)
  have hr0 : R_rp (s + 2) P0 S0 := by
    rcases hr with h | h
    · exact Or.inl (st.1.trans h)
    · exact Or.inr ⟨0, by omega, ct, st.2.1.trans h, fun i hi => by omega⟩
  have pre : ∀ q, q < n → op_pre (s + 2) (k_th U s q) (x0 + q) (S.2 4 q) P0 S0 := fun q hq => by
    have := pre_of hR0 ap hn hx hq hr0 cf sf
    rw [s2] at this
    exact this
  have fin : ∀ q, q < n → ∀ (P' : k_P) (W : Int32 × m_S), op_R (s + 2) (k_th U s q) (x0 + q) (S.2 4 q) P S P' W.1 W.2 → R_sl n W.2.2 (x0 + q) (S.2 4 q) → sv_R k P' (s + 2) W.1 W.2 → (k = 18 → W.2.1 25 = 0 → ∃ q, q < n ∧ S.2 9 (x0 + o) = nI q ∧ W.2.1 26 = nI q) → perf_R U s n x0 k o P S P' W := fun q hq P' W h hsl hsv h18 =>
    ⟨hR.op ap hq h hsl, h.2.2.2.1, h.2.2.2.2.1, h.2.2.2.2.2, hsv, h.1.sh hq, h.2.1.sh hq, h18⟩
  by_cases hh : y_has (S.2 4 o) (nI k) = true
  rotate_left
  · rw [if_neg hh, if_neg hh]
    have op := op_find (a := 0) (c := 2) (pre o ho) (fC _) (fM _) (by decide)
    have e : (va_up (va_up (va_up S.1 25 0) 28 (S.2 9 (x0 + o))) 25 2, S.2) = (va_up S0.1 25 2, S0.2) := by rw [← hS0]
    rw [e]
    refine fin o ho _ (0, _) op (R_sl.op hR ho op (fun _ => by dsimp only; rw [s2])) (fun z => ?_) (fun _ z => ?_)
    · dsimp only at z; rw [up_s] at z; exact absurd z (by decide)
    · dsimp only at z; rw [up_s] at z; exact absurd z (by decide)
  rw [if_pos hh, if_pos hh]
  have knI : ∀ m, m < 22 → nI k = nI m → k = m := fun m hm e => by rw [i_eq (by omega) (by omega)] at e; exact e
  by_cases k18 : k = 18
  · subst k18
    rw [if_pos (by decide), show y_wA (x0 + o) 18 a b S0 = (a, y_bump (x0 + o) a S0) by simp (decide := true) only [y_wA, if_true, if_false]]
    have s7 : S.2 4 o = 7 := by rw [show nI 18 = 18 from rfl, yh_18] at hh; simpa using hh
    have ev : P0.1 223 (k_th U s o) = S.2 9 (x0 + o) := by
      have := ((pre o ho).1.2.2 (by rw [s7]; decide) (by rw [s7]; decide)).1
      rw [s2] at this
      exact this
    unfold k_bump y_bump
    rw [ev, s2]
    rcases (hR o ho).2.2.2.2 s7 with e | ⟨q, hq, e⟩
    · rw [e, if_pos rfl, k_tO_m1]
      dsimp only
      have op := op_find (a := a) (c := 1) (((pre o ho).body 22).F (f := 26) (v := -1) (by decide)) (fC _).body (fr_M.F (fM (x0 + o)).body (by decide)) (by decide)
      refine fin o ho _ (a, _) op (R_sl.op hR ho op (fun _ => by dsimp only; rw [yb_A (by decide), s2])) (sv_no (by decide) (by decide) (by decide) (by decide)) (fun _ z => ?_)
      dsimp only at z; rw [up_s] at z; exact absurd z (by decide)
    · have hq40 : q < 40 := by omega
      rw [e, if_neg (by rw [i_m1 (by omega)]; exact id), k_tO_s hq hn, i_cl (by omega), (mod40 hx ho40).2]
      dsimp only
      have pq := ((pre q hq).body 22).F (f := 26) (v := nI q) (by decide)
      by_cases c : y_has (S.2 4 q) 1 = true
      · rw [if_pos c]
        have s16 : S.2 4 q = 1 ∨ S.2 4 q = 6 := by rw [yh_1] at c; simpa using c
        have op := op_more (a := a) pq (fC _).body (fr_M.F (fM (x0 + q)).body (by decide)) s16
        refine fin q hq _ (a, _) op (fun z => ?_) (sv_no (by decide) (by decide) (by decide) (by decide)) (fun _ _ => ⟨q, hq, e, ?_⟩)
        · rw [z] at s16; exact absurd s16 (by decide)
        · dsimp only
          rw [ym_F (by decide) (by decide)]
          dsimp only
          rw [up_s]
      · rw [if_neg c]
        have sn : ¬ S.2 4 q = 1 ∧ ¬ S.2 4 q = 6 := by rw [yh_1] at c; simpa using c
        have e2 : k_add (k_body P0 (s + 2) 22) (k_th U s q) (s + 2) a = k_wr (k_body P0 (s + 2) 22) 101 (s + 2) 2 := by
          unfold k_add
          rw [pq.2.2.2.2.1, if_neg sn.1, if_neg sn.2]
        rw [e2]
        have op := op_find (a := a) (c := 2) pq (fC _).body (fr_M.F (fM (x0 + q)).body (by decide)) (by decide)
        refine fin q hq _ (a, _) op (R_sl.op hR hq op (fun _ => by dsimp only; rw [yb_A (by decide), s2])) (sv_no (by decide) (by decide) (by decide) (by decide)) (fun _ z => ?_)
        dsimp only at z; rw [up_s] at z; exact absurd z (by decide)
  rw [if_neg (fun z : nI k = (18 : Int32) => k18 (knI 18 (by omega) z))]
  by_cases k19 : k = 19
  · subst k19
    rw [if_pos (by decide)]
    obtain ⟨i, hi, rfl⟩ := har.2.2.1 (by omega)
    obtain ⟨q, hq, hqo, rfl⟩ := har.2.2.2.2 rfl
    have s6 : S.2 4 o = 6 := by rw [show nI 19 = 19 from rfl, yh_19] at hh; simpa using hh
    rw [show y_wA (x0 + o) 19 (nI i) (nI q) S0 = (nI i, y_move (x0 + o) (nI i) q S0) by simp (decide := true) only [y_wA, if_true, if_false, i_cl (show q ≤ 2000000000 by omega)]]
    have p6 := pre o ho
    rw [s6] at p6
    have opD := op_draw (p6.body 23) (fC _).body (fM (x0 + o)).body hi
    unfold k_move y_move
    dsimp only
    have sv : ∀ (P' : k_P) (W : m_S), sv_R 19 P' (s + 2) (nI i) W := fun P' W => sv_no (by decide) (by decide) (by decide) (by decide)
    have eS2b : (y_more (x0 + o) (-(nI i).toInt64) (y_body 20 (y_body 23 S0))).1 28 = S.2 9 (x0 + o) := by rw [ym_F (by decide) (by decide), yb_F (by decide), yb_F (by decide)]; exact sb
    have eS2v := ym_v (S := y_body 20 (y_body 23 S0)) (x := x0 + o) (a := -(nI i).toInt64) (((p6.body 23).body 20).2.2.2.2.2.1)
    generalize y_more (x0 + o) (-(nI i).toInt64) (y_body 20 (y_body 23 S0)) = S2 at opD eS2b eS2v
    generalize k_draw (k_body P0 (s + 2) 23) (k_th U s o) (s + 2) (nI i) = D at opD
    rw [opD.2.2.2.2.1]
    have opD' := opD
    rw [← s6] at opD
    have slD : R_sl n S2.2 (x0 + o) (S.2 4 o) := fun z => by rw [s6] at z; exact absurd z (by decide)
    by_cases c : S2.1 25 = 0
    rotate_left
    · rw [if_neg c, if_neg c]
      exact fin o ho _ (nI i, _) opD slD (sv _ _) (fun z => by omega)
    · rw [if_pos c, if_pos c, k_tO_s hq hn]
      dsimp only
      have hq40 : q < 40 := by omega
      have RD := hR.op ap ho opD slD
      obtain ⟨eo1, eo2, eo3⟩ := z_frO1 opD.2.1.1
      have pq : op_pre (s + 2) (k_th U s q) (x0 + q) (S.2 4 q) D S2 := by
        have := pre_of RD ap hn hx hq opD.2.2.2.1 (opD.2.2.2.2.1.trans c) c
        rw [eo1] at this
        exact this
      unfold k_move2
      rw [eo1, (mod40 hx ho40).2]
      have vS2 : S2.2 9 (x0 + o) + nI i = S.2 9 (x0 + o) := by
        rw [eS2v c, yb_A (by decide), yb_A (by decide), s2, ← i64_neg (by omega), i64_add, Int32.add_assoc, Int32.add_left_neg, Int32.add_zero]
      have back : ∀ (D' : k_P) (S3 : m_S), op_R (s + 2) (k_th U s q) (x0 + q) (S.2 4 q) D S2 D' (nI i) S3 → R_sl n S3.2 (x0 + q) (S.2 4 q) → S3.1 28 = S2.1 28 → S3.1 25 ≠ 0 → perf_R U s n x0 19 o P S (k_wr (k_rev D' (k_th U s o) 16 (nI i) (nI i) 0) 100 (s + 2) 0) (nI i, S3.1, va_up S3.2 9 (va_up (S3.2 9) (x0 + o) (S3.1 28))) := by
        intro D' S3 opP slP hbf hf
        have opP' := opP
        rw [← eo1] at opP
        have RP := RD.op ap hq opP (by rw [eo1]; exact slP)
        obtain ⟨ep1, ep2, ep3⟩ := z_frO1 opP.2.1.1
        have e6 : S3.2 4 o = 6 := by rw [ep1, eo1]; exact s6
        have ek : k_rev D' (k_th U s o) 16 (nI i) (nI i) 0 = k_wr D' 223 (k_th U s o) (D'.1 223 (k_th U s o) + nI i) := by
          unfold k_rev
          simp (decide := true) only [if_true, if_false]
        have ev : D'.1 223 (k_th U s o) + nI i = S3.1 28 := by
          have h1 := ((RP o ho).2.2.2.1.2.2 (by rw [e6]; decide) (by rw [e6]; decide)).1
          rw [h1, (opP.2.1.2.1 (x0 + o) (by omega)).1, vS2, hbf, eS2b]
        rw [ek, ev]
        have opB : op_R (s + 2) (k_th U s o) (x0 + o) (S3.2 4 o) D' S3 (k_wr (k_wr D' 223 (k_th U s o) (S3.1 28)) 100 (s + 2) 0) (nI i) (S3.1, va_up S3.2 9 (va_up (S3.2 9) (x0 + o) (S3.1 28))) := by
          refine ⟨fr_C.rf.wrv.wrp (by decide), fr_M.val fr_M.rfE (fun i hi => up_n hi), ?_, opP.2.2.2.1.cg (by rw [k_rn (by decide), k_rn (by decide)]) rfl rfl rfl (by dsimp only; exact up_n (by decide)), ?_, fun z => absurd z hf⟩
          · rw [e6]
            have h3 := (RP o ho).2.2.2.1.2.2 (by rw [e6]; decide) (by rw [e6]; decide)
            refine ⟨fun z => absurd z (by decide), fun z => absurd z (by decide), fun _ _ => ⟨?_, ?_, ?_⟩⟩
            · dsimp only; rw [k_rn (by decide), k_rs, up_s, up_s]
            · dsimp only; rw [up_n (by decide)]; exact h3.2.1
            · dsimp only; rw [up_n (by decide)]; exact h3.2.2
          · dsimp only; rw [k_rn (by decide), k_rn (by decide)]; exact opP.2.2.2.2.1
        refine ⟨RP.op ap ho opB (fun z => by rw [e6] at z; exact absurd z (by decide)), opB.2.2.2.1, opB.2.2.2.2.1, fun z => absurd z hf, sv _ _, ((opD.1.sh ho).tr (opP.1.sh hq)).tr (opB.1.sh ho), ((opD.2.1.sh ho).tr (opP.2.1.sh hq)).tr (opB.2.1.sh ho), fun z => by omega⟩
      by_cases c6 : S.2 4 q = 6
      · rw [if_pos c6]
        rw [c6] at pq
        have opP := op_pay (a := nI i) pq fr_C.rf fr_M.rf
        rw [opP.2.2.2.2.1]
        have hbf : (y_more (x0 + q) (nI i).toInt64 (y_body 19 S2)).1 28 = S2.1 28 := by rw [ym_F (by decide) (by decide), yb_F (by decide)]
        by_cases cf3 : (y_more (x0 + q) (nI i).toInt64 (y_body 19 S2)).1 25 = 0
        · rw [if_pos cf3, if_pos cf3]
          rw [← c6, ← eo1] at opP
          refine ⟨RD.op ap hq opP (fun z => by rw [eo1, c6] at z; exact absurd z (by decide)), opP.2.2.2.1, opP.2.2.2.2.1, opP.2.2.2.2.2, sv _ _, (opD.1.sh ho).tr (opP.1.sh hq), (opD.2.1.sh ho).tr (opP.2.1.sh hq), fun z => by omega⟩
        · rw [if_neg cf3, if_neg cf3]
          rw [← c6] at opP
          exact back _ _ opP (fun z => by rw [c6] at z; exact absurd z (by decide)) hbf cf3
      · rw [if_neg c6]
        have e2 : k_pay D (k_th U s q) (s + 2) (nI i) = k_wr D 101 (s + 2) 2 := by
          unfold k_pay
          rw [pq.2.2.2.2.1, if_neg c6]
        have opP := op_find (a := nI i) (c := 2) pq fr_C.rf fr_M.rf (by decide)
        have h2 : (va_up S2.1 25 2) 25 = 2 := up_s
        rw [e2, k_rs, if_neg (by decide)]
        dsimp only
        rw [if_neg (show ¬ va_up S2.1 25 2 25 = 0 from by rw [h2]; decide)]
        refine back _ _ opP ?_ (by dsimp only; exact up_n (by decide)) (by dsimp only; rw [h2]; decide)
        have := (RD q hq).2.2.2.2
        rw [eo1] at this
        exact this
  rw [if_neg (fun z : nI k = (19 : Int32) => k19 (knI 19 (by omega) z))]
  by_cases k20 : k = 20
  · subst k20
    rw [if_pos (by decide), show y_wA (x0 + o) 20 a b S0 = y_sum (x0 + o) S0 by simp (decide := true) only [y_wA, if_true, if_false]]
    have hs0 : k_Sh Z P0 U s n := hs.keep (by rw [← hP0]; exact kcl_1 (by decide) (by decide) (by decide) (by decide))
    have hob0 : R_ob n S0.2 := by rw [s2]; exact hob
    obtain ⟨b1, b2, b3, b4, b5⟩ := sum_ok hR0 hs0 hob0 hx ho n 0 0 (k_body P0 (s + 2) 24) (y_body 24 S0) (Nat.zero_add _) (hr0.body 24) (fun f hf => by rw [yb_A hf])
    unfold k_sumB y_sum
    rw [st.2.2, h20 rfl, i_cl (by omega)]
    generalize k_sbR P0 U s n (nI o) 0 n 0 (k_body P0 (s + 2) 24) = R1 at b1 b2 b3
    have zf : z_fr S (y_sumR (x0 + o) 0 n 0 (y_body 24 S0)).2 := z_frS (z_frB (fM (x0 + o)).1)
    generalize y_sumR (x0 + o) 0 n 0 (y_body 24 S0) = R2 at b1 b2 b4 b5 zf
    have eF : R2.2.1 25 = 0 := (b5 _ (by decide)).trans ((yb_F (by decide)).trans sf)
    have eA : ∀ f, f ≠ 31 → R2.2.2 f = S.2 f := fun f hf => (b4 f hf).trans (by rw [s2])
    have eP : ∀ f a, (a = s + 2 → f ≠ 103) → R1.2.1 f a = P0.1 f a := fun f a hf => (b3.1 f a hf).trans (kb_1a hf)
    have eP2 : ∀ a, a ≠ s + 2 + 1 → R1.2.2 a = P.2 a := fun a ha => (b3.2 a ha).trans ((kb_2 ha).trans (by rw [c2]))
    refine ⟨hR.keep (fun f hf q hq => ?_) (fun q hq => ?_) (eA _ (by decide)) (eA _ (by decide)) (eA _ (by decide)) (fun q _ => ⟨by rw [eA _ (by decide)], by rw [eA _ (by decide)], by rw [eA _ (by decide)]⟩) (fun q _ _ => by rw [eA _ (by decide)]), ?_, ?_, fun _ => ?_, sv_no (by decide) (by decide) (by decide) (by decide), ?_, ⟨zf, fun q _ => ⟨by rw [eA _ (by decide)], by rw [eA _ (by decide)], by rw [eA _ (by decide)]⟩, fun q _ => by rw [eA _ (by decide)]⟩, fun z => by omega⟩
    · rw [k_rn (by omega), eP f _ (fun _ => by omega)]; exact kc f hf _
    · rw [k_r2]; exact eP2 _ (by have := ap.2 q hq; omega)
    · exact b2.cg (k_rn (by decide)) rfl rfl rfl rfl
    · rw [k_rn (by decide), eP _ _ (fun _ => by decide), cf, eF]
    · rw [k_rs]; exact b1
    · exact ((((fC (k_th U s o)).sh ho).tr (P' := P0) ⟨fun f c h1 _ => eP f c (fun z => (h1 z).2.2.2), fun c h1 _ => (b3.2 c h1).trans (kb_2 h1)⟩).tr ((fr_C.rf.wrp (by decide) : fr_C (s + 2) (k_th U s o) R1.2 (k_wr R1.2 100 (s + 2) R1.1)).sh ho))
  rw [if_neg (fun z : nI k = (20 : Int32) => k20 (knI 20 (by omega) z))]
  have op := op_run (a := a) (b := b) (pre o ho) (fC _) (fM (x0 + o)) hk k18 k19 k20 hh har (by rw [sb, s2])
  refine fin o ho _ _ op.1 (fun z => ?_) op.2 (fun z => absurd z k18)
  by_cases c17 : k = 17
  · subst c17
    rw [show y_wA (x0 + o) 17 a b S0 = (S0.1 28, (y_body 21 S0).1, va_up (y_body 21 S0).2 9 (va_up (S0.2 9) (x0 + o) a)) by simp (decide := true) only [y_wA, if_true, if_false]]
    dsimp only
    rw [up_s, up_s]
    exact har.2.2.2.1 rfl
  · have hk2 : k = 0 ∨ k = 21 := by
      rw [z] at hh
      have hk' : k = 0 ∨ k = 1 ∨ k = 2 ∨ k = 3 ∨ k = 4 ∨ k = 5 ∨ k = 6 ∨ k = 7 ∨ k = 8 ∨ k = 9 ∨ k = 10 ∨ k = 11 ∨ k = 12 ∨ k = 13 ∨ k = 14 ∨ k = 15 ∨ k = 16 ∨ k = 21 := by omega
      rcases hk' with rfl | rfl | rfl | rfl | rfl | rfl | rfl | rfl | rfl | rfl | rfl | rfl | rfl | rfl | rfl | rfl | rfl | rfl
      all_goals first | exact Or.inl rfl | exact Or.inr rfl | (exfalso; revert hh; decide)
    have ev : (y_wA (x0 + o) k a b S0).2.2 9 = S.2 9 := by
      rcases hk2 with rfl | rfl
      · rw [show y_wA (x0 + o) 0 a b S0 = (S0.2 9 (x0 + o), y_body (if y_sort S0.1 S0.2 (x0 + o) = 7 then 2 else 1) S0) from if_pos rfl]
        dsimp only
        rw [yb_A (by decide), s2]
      · rw [show y_wA (x0 + o) 21 a b S0 = (a, S0) by simp (decide := true) only [y_wA, if_true, if_false]]
        dsimp only
        rw [s2]
    rw [ev]
    exact (hR o ho).2.2.2.2 z
end RG
