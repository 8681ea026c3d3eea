/-! grantFirst beside the reference -/
section SM
variable {g : e_G} {Ψ : e_Q} {B : Nat → Option e_Cl} {Z : k_Z} {P : k_P} {U U' : k_U} {r r' : Nat × Nat} {S S1 : m_S} {N own n b l nl nw nr na ne t q o i k x c T : Nat} {ch : Nat → List Nat} {C' : Nat → Nat}
theorem k_E.zc (E : k_E N own Z U r) (hr : k_ro N 0 0 Z.2.1 r C' r') (w' : k_W N Z U') (e22 : U'.2.2 = U.2.2) : k_E N own (k_zc Z C') U' r' := by
  obtain ⟨w, t, fr, inj, hN⟩ := E
  have E' : k_E N own Z U r := ⟨w, t, fr, inj, hN⟩
  refine ⟨w'.zc hr, t, fun a ha => ?_, fun a i a' i' x h1 h2 e1 e2 => ?_, hN.cg hr.1 (fun _ _ => rfl) (by rw [e22])⟩
  · have h1 : r.1 ≤ a := Nat.le_trans hr.1 ha
    refine ⟨(fr a h1).1, ?_⟩
    show C' a = 0
    rw [E'.ro hr h1]; exact (fr a h1).2
  · rw [e22] at e1 e2
    exact inj a i a' i' x h1 h2 e1 e2
theorem gd_old {d f a : Nat} (h1 : f ≠ 43 ∨ a ≠ d) (h2 : f ≠ 25 ∨ a ≠ d + 1) : (k_gd P d).1 f a = P.1 f a := by
  unfold k_gd
  rw [k_wno h2, k_wno h1]
theorem er_app {α : Type} {y : α} {l2 : List α} : ∀ l1 : List α, (l1 ++ y :: l2).eraseIdx l1.length = l1 ++ l2
  | [] => rfl
  | z :: l1 => by rw [List.cons_append, List.length_cons, List.eraseIdx_cons_succ, er_app l1]; rfl
theorem K_wake (hI : I_all n b l nl nw nr na ne ch 0 c T S) (hK : K_all N own n b l nl nw nr ne ch 0 Z P U r S) (h1 : 1 ≤ t) (h2 : t ≤ b) (st2 : S.2 47 t = 2) (eq : S.2 71 t = nI q) (hq : q + 1 ≤ 12) (hk : k < nw) (ewt : S.2 81 k = nI t) (ho : o < n) (eo : S.2 82 k = nI o) (hx : (k_ql U own o)[i]? = some x) (hwv : WV Z P x = WN (v_w S.2 k)) (ei : i = (v_WO (nI o) ((v_W nw S.2).take k)).length)
    (hs : stp t (q + 1) 1 S S1) (eLA : S1.1 66 = S.1 66)
    (eho : k_hl U' own o = k_hl U own o ++ [x]) (ehx : ∀ y, y < n → y ≠ o → k_hl U' own y = k_hl U own y) (eqo : k_ql U' own o = (k_ql U own o).eraseIdx i) (eqx : ∀ y, y < n → y ≠ o → k_ql U' own y = k_ql U own y) (e22 : U'.2.2 = U.2.2) (eU1 : U'.1 = va_up U.1 (dl U own t) none) (eUL : ∀ a, Z.1 a ≠ 31 → U'.2.1 a = U.2.1 a) (hr : k_ro N 0 0 Z.2.1 r C' r') (w' : k_W N Z U')
    (vL : v_L (nl + 1) S1.2 = v_L nl S.2 ++ [(nI t, S.2 82 k, S.2 83 k, S.2 84 k, S.2 85 k, S.2 51 t, 1)]) (vW : v_W (nw - 1) S1.2 = (v_W nw S.2).eraseIdx k) :
    Z.2.2 x = dl U own t ∧ K_all N own n b l (nl + 1) (nw - 1) nr ne ch t (k_zc Z C') (k_gd P (dl U own t)) U' r' S1 := by
  have hI0 := hI
  have hK0 := hK
  obtain ⟨hL, hD, hE, hLk, hV, hM, hP, hX⟩ := hI
  obtain ⟨E, kLg, hs1, hs5, kDe, kEn, kAs, kLk, kVe, kMi⟩ := hK
  obtain ⟨d1, d2, d3, d4, d5, d6, d7, d8, d9, d10, d11⟩ := hD
  have kLk0 := kLk
  obtain ⟨e1, e2, e3, e4, e5, e6, e7⟩ := kDe
  obtain ⟨j1, j2, j3, j4, j5, j6⟩ := kLk
  have n40 : n ≤ 40 := hL.2.2.1.1
  have tO := E.2.1
  obtain ⟨a1, a2, a3, a4, a5, a6, a7, a8, a9, a10⟩ := E.1.hse tO
  have td := dl_t E e1 h1 h2
  have xm : x ∈ k_ql U own o := List.mem_of_getElem? hx
  obtain ⟨u, b1, b2, b3, b4, b5, b6, b7⟩ := j4 o ho x xm
  have enum : P.1 40 (Z.2.2 x) = nI t := by
    have := congrArg (fun z : v_WT => z.1) hwv
    exact Eq.trans this ewt
  have ut : u = t := by
    rw [b4, (e3 u b1 b2).1, i_eq (by omega) (by omega)] at enum
    exact enum
  subst ut
  refine ⟨b4, ?_⟩
  have spt : ∀ y, y < n → Z.1 (k_sp U own y) = 10 := fun y hy => k_sp_t E.1 tO j1 hy
  have tx : Z.1 x = 4 := E.1.llo (E.1.spt (spt o ho)).2.1 xm
  have hkf : kfr Z P U r (k_zc Z C') (k_gd P (dl U own u)) U' := by
    refine ⟨fun a ha => ⟨rfl, rfl⟩, fun a _ => by rw [e22], fun a _ h => eUL a h, fun f a ha hf => ?_, fun a ha => rfl⟩
    exact gd_old (Or.inl (nmem hf (by decide))) (Or.inl (nmem hf (by decide)))
  have hdn : ∀ v, 1 ≤ v → v ≤ b → v ≠ u → dl U own v ≠ dl U own u := fun v v1 v2 hne z => hne (dl_inj e1 e2 v1 v2 h1 h2 z)
  have xu : ∀ y, y < n → ∀ z ∈ k_ql U own y, Z.2.2 z = dl U own u → z = x ∧ y = o := fun y hy z hz e => by
    obtain ⟨v, c1, c2, c3, c4, c5, _⟩ := j4 y hy z hz
    have : v = u := dl_inj e1 e2 c1 c2 h1 h2 (c4.symm.trans e)
    subst this
    rw [b5] at c5
    have zx : z = x := (Option.some.inj c5).symm
    subst zx
    refine ⟨rfl, ?_⟩
    have p1 := ql_place kLk0 hy hz
    have p2 := ql_place kLk0 ho xm
    rw [p1, i_eq (by omega) (by omega)] at p2
    exact p2
  have ndq := ql_nd hLk kLk0 ho
  have mem_o : ∀ y, y ∈ k_ql U' own o ↔ y ∈ k_ql U own o ∧ y ≠ x := fun y => by
    rw [eqo]
    exact mem_er ndq hx
  have mWV : ∀ y, WV (k_zc Z C') (k_gd P (dl U own u)) y = WV Z P y := fun y => by
    unfold WV
    rw [gd_old (Or.inl (by decide)) (Or.inl (by decide)), gd_old (Or.inl (by decide)) (Or.inl (by decide)), gd_old (Or.inl (by decide)) (Or.inl (by decide)), gd_old (Or.inl (by decide)) (Or.inl (by decide)), gd_old (Or.inl (by decide)) (Or.inl (by decide)), gd_old (Or.inl (by decide)) (Or.inl (by decide))]
    rfl
  have xnh : ∀ y, y < n → x ∉ k_hl U own y := fun y hy z => by
    have mem : LV Z P (if 0 = 0 then own else dl U own 0) x ∈ (v_LO (nI y) (v_L nl S.2)).map LN := by rw [← (j2 y hy).1]; exact List.mem_map.mpr ⟨x, z, rfl⟩
    obtain ⟨w, w1, w2⟩ := List.mem_map.mp mem
    have wm := (List.mem_filter.mp w1).1
    have hm : v_w S.2 k ∈ v_W nw S.2 := List.mem_of_getElem? (by rw [v_Wg, if_pos hk])
    have q1 : w.1 = S.2 81 k := (congrArg (fun z : v_LT => z.1) w2).trans (congrArg (fun z : v_WT => z.1) hwv)
    have q2 : w.2.1 = S.2 82 k := (congrArg (fun z : v_LT => z.2.1) w2).trans (congrArg (fun z : v_WT => z.2.1) hwv)
    have q3 : w.2.2.1 = S.2 83 k := (congrArg (fun z : v_LT => z.2.2.1) w2).trans (congrArg (fun z : v_WT => z.2.2.1) hwv)
    have q4 : (if w.2.2.1 = 4 then w.2.2.2.1 else -9) = if S.2 83 k = 4 then S.2 84 k else -9 := (congrArg (fun z : v_LT => z.2.2.2.1) w2).trans (congrArg (fun z : v_WT => z.2.2.2.1) hwv)
    have q5 : (if w.2.2.1 = 4 then w.2.2.2.2.1 else -9) = if S.2 83 k = 4 then S.2 85 k else -9 := (congrArg (fun z : v_LT => z.2.2.2.2.1) w2).trans (congrArg (fun z : v_WT => z.2.2.2.2.1) hwv)
    refine hLk.2.2.2.2.2.2.2.2.2.2.2.1.1 _ hm w wm ⟨q1, q2, q3, fun z4 => ?_⟩
    rw [if_pos z4, if_pos (q3.symm.trans z4)] at q4 q5
    exact ⟨q4, q5⟩
  refine K_stp (hx := fun y => if y = o then [x] else []) hI0 hK0 hkf hs h1 h2 (E.zc hr w' e22) (Or.inr ⟨rfl, st2⟩) (Or.inl ⟨rfl, rfl⟩) (fun v v1 v2 => ?_) ?_ (fun v v1 v2 hne => ?_) hq ?_ (fun y hy => ?_) (fun y hy => ?_) (fun y hy z hz => ?_) (fun y _ => ?_) vL (fun y hy => ?_) (fun y hy z hz => ?_) (fun v v1 v2 hne => by rw [eU1, up_n (hdn v v1 v2 hne)]) ⟨fun _ => by rw [eU1, up_s], fun y hy => by rw [eU1, up_s] at hy; cases hy⟩ (fun y hy z hz hne => ?_)
  · rw [hs.2.2.1]
    by_cases c : v = u
    · subst c
      rw [up_s]
      unfold k_gd
      rw [k_rn (by decide), k_rs]
    · rw [up_n c, gd_old (Or.inr (hdn v v1 v2 c)) (Or.inl (by decide))]
      exact (e3 v v1 v2).2.2.2.1
  · rw [gd_old (Or.inl (by decide)) (Or.inl (by decide)), eLA]
    exact kMi.2.2.2.2.2.2.2.2.2.2.1
  · have h' : dl U own v + 1 ≠ dl U own u + 1 := fun z => hdn v v1 v2 hne (by omega)
    exact ⟨gd_old (Or.inl (by decide)) (Or.inl (by decide)), gd_old (Or.inl (by decide)) (Or.inr h')⟩
  · obtain ⟨_, _, _, _, sp, s0, s1, s2⟩ := kAs u h1 h2 (Or.inl st2)
    refine ⟨sp + 1, ?_, ?_⟩
    · unfold k_gd
      rw [k_rs, s1, i_a1]
    · rw [gd_old (Or.inl (by decide)) (Or.inl (by decide))]
      rcases s2 with ⟨x1, x2, x3, x4⟩ | ⟨x1, x2⟩
      · have := x4 st2
        rw [eq, i_eq (by omega) (by omega)] at x2
        exact Or.inl ⟨x1, by omega, by omega, fun z => absurd z (by decide)⟩
      · have hak := ask_ok hI0 hK0 h1 h2 (Or.inl st2)
        obtain ⟨z1, z2⟩ := o1_L1 hak n40
        have dq := (dp_ok hL.2.2.1 z2).2
        rw [← z1] at dq
        rw [eq, i_eq (by omega) (by omega)] at x2
        exact Or.inr ⟨x1, by omega⟩
  · by_cases c : y = o
    · subst c; rw [if_pos rfl]; exact eho
    · rw [if_neg c, List.append_nil]; exact ehx y hy c
  · rw [if_neg (show ¬ u = 0 by omega)]
    unfold v_LO
    by_cases c : y = o
    · subst c
      rw [if_pos rfl, List.filter_cons_of_pos (by simp only [beq_iff_eq]; exact eo)]
      simp only [List.map_cons, List.map_nil, List.filter_nil]
      have w1 := congrArg (fun z : v_WT => z.2.1) hwv
      have w2 := congrArg (fun z : v_WT => z.2.2.1) hwv
      have w3 := congrArg (fun z : v_WT => z.2.2.2.1) hwv
      have w4 := congrArg (fun z : v_WT => z.2.2.2.2.1) hwv
      have w1 : P.1 61 x = S.2 82 k := w1
      have w2 : P.1 62 x = S.2 83 k := w2
      have w3 : P.1 63 x = if S.2 83 k = 4 then S.2 84 k else -9 := w3
      have w4 : P.1 64 x = if S.2 83 k = 4 then S.2 85 k else -9 := w4
      unfold LV LN
      dsimp only
      have zx : (k_zc Z C').2.2 x = dl U own u := b4
      rw [zx, gd_old (f := 61) (Or.inl (by decide)) (Or.inl (by decide)), gd_old (f := 62) (Or.inl (by decide)) (Or.inl (by decide)), gd_old (f := 63) (Or.inl (by decide)) (Or.inl (by decide)), gd_old (f := 64) (Or.inl (by decide)) (Or.inl (by decide)), gd_old (f := 66) (Or.inl (by decide)) (Or.inl (by decide)), gd_old (f := 65) (Or.inl (by decide)) (Or.inl (by decide)), gd_old (f := 40) (Or.inl (by decide)) (Or.inl (by decide)), gd_old (f := 47) (Or.inl (by decide)) (Or.inl (by decide)), w1, w2, w3, w4, b6, b7, (e3 u h1 h2).1, (e3 u h1 h2).2.2.2.2.2.2.2.1, decide_eq_true rfl, decide_eq_true rfl, Bool.or_true, Bool.and_true]
      rfl
    · rw [if_neg c, List.filter_cons_of_neg (by
        simp only [beq_iff_eq]
        rw [eo, i_eq (by omega) (by omega)]
        exact fun z => c z.symm)]
      rfl
  · by_cases c : y = o
    · rw [if_pos c, List.mem_singleton] at hz
      subst hz
      refine ⟨xnh y hy, b4, ?_⟩
      rw [gd_old (Or.inl (by decide)) (Or.inl (by decide))]
      exact b7
    · rw [if_neg c] at hz; cases hz
  · split
    · simp
    · exact List.nodup_nil
  · have er : ∀ z : Int32, v_WO z ((v_W nw S.2).eraseIdx k) = if z = nI o then (v_WO (nI o) (v_W nw S.2)).eraseIdx i else v_WO z (v_W nw S.2) := fun z => by
      have hxk : (v_W nw S.2)[k]? = some (v_w S.2 k) := by rw [v_Wg, if_pos hk]
      obtain ⟨hkl, hke⟩ := List.getElem?_eq_some_iff.mp hxk
      have e0 : v_W nw S.2 = (v_W nw S.2).take k ++ v_w S.2 k :: (v_W nw S.2).drop (k + 1) := by
        rw [← hke, ← List.drop_eq_getElem_cons hkl, List.take_append_drop]
      rw [List.eraseIdx_eq_take_drop_succ]
      by_cases c : z = nI o
      · rw [if_pos c, c, ei]
        have e2 : v_WO (nI o) (v_W nw S.2) = v_WO (nI o) ((v_W nw S.2).take k) ++ v_w S.2 k :: v_WO (nI o) ((v_W nw S.2).drop (k + 1)) := by
          conv => lhs; rw [e0]
          unfold v_WO
          rw [List.filter_append, List.filter_cons_of_pos (by simp only [v_w, beq_iff_eq]; exact eo)]
        conv => rhs; rw [e2]
        rw [er_app]
        unfold v_WO
        rw [List.filter_append]
      · rw [if_neg c]
        conv => rhs; rw [e0]
        unfold v_WO
        rw [List.filter_append, List.filter_append, List.filter_cons_of_neg (by simp only [v_w, beq_iff_eq]; rw [eo]; exact fun y => c y.symm)]
    rw [vW, er, List.map_congr_left (fun z _ => mWV z)]
    by_cases c : y = o
    · subst c
      rw [if_pos rfl, eqo, List.eraseIdx_eq_take_drop_succ, List.eraseIdx_eq_take_drop_succ, List.map_append, List.map_append, List.map_take, List.map_drop, List.map_take, List.map_drop, (j2 y hy).2.1]
    · rw [if_neg (by rw [i_eq (by omega) (by omega)]; exact c), eqx y hy c]
      exact (j2 y hy).2.1
  · refine Or.inl ?_
    by_cases c : y = o
    · subst c
      obtain ⟨z1, z2⟩ := (mem_o z).mp hz
      exact ⟨z1, fun e => z2 (xu y hy z z1 e).1⟩
    · rw [eqx y hy c] at hz
      exact ⟨hz, fun e => c (xu y hy z hz e).2⟩
  · by_cases c : y = o
    · subst c
      refine (mem_o z).mpr ⟨hz, fun e => hne ?_⟩
      rw [e]; exact b4
    · rw [eqx y hy c]; exact hz
end SM
