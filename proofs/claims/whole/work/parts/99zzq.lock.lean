/-! lock and waits -/
section UT
variable {g : e_G} {own : Nat} {r0 : Nat × Nat}
def tlM (x : v_LT) (what : Int32) : Int32 := if what = 0 then x.1 else if what = 1 then x.2.2.1 else if x.2.2.1 = 4 then (if what = 2 then x.2.2.2.1 else x.2.2.2.2.1) else -9
def tlW (x : v_WT) (what : Int32) : Int32 := if what = 0 then x.1 else if what = 1 then x.2.2.1 else if x.2.2.1 = 4 then (if what = 2 then x.2.2.2.1 else x.2.2.2.2.1) else -9
theorem lockR_ok {o : Nat} {i what : Int32} {A : m_A} : ∀ (m k n : Nat), n + m ≤ 10000 → (∀ q x, (((List.range' k m).map (v_k A)).filter (fun x => x.2.1 == nI o))[q]? = some x → i = nI (n + q) → y_lockR (nI o) i what A k m (nI n) = tlM x what) ∧ ((∀ q x, (((List.range' k m).map (v_k A)).filter (fun x => x.2.1 == nI o))[q]? = some x → ¬ i = nI (n + q)) → y_lockR (nI o) i what A k m (nI n) = -9)
  | 0, k, n, _ => ⟨(fun q x h => by simp at h), fun _ => rfl⟩
  | m + 1, k, n, hn => by
    obtain ⟨i1, i2⟩ := lockR_ok (o := o) (i := i) (what := what) (A := A) m (k + 1) n (by omega)
    obtain ⟨j1, j2⟩ := lockR_ok (o := o) (i := i) (what := what) (A := A) m (k + 1) (n + 1) (by omega)
    rw [show List.range' k (m + 1) = k :: List.range' (k + 1) m from rfl, List.map_cons, y_lockR]
    by_cases c : A 74 k = nI o
    · have hb : (v_k A k).2.1 == nI o := by rw [beq_iff_eq]; exact c
      rw [if_pos c, List.filter_cons_of_pos (p := fun x : v_LT => x.2.1 == nI o) hb]
      by_cases c2 : nI n = i
      · rw [if_pos c2]
        refine ⟨fun q x h e => ?_, fun h => absurd c2.symm (h 0 _ rfl)⟩
        have hl := (List.getElem?_eq_some_iff.mp h).1
        have hlen : (((List.range' (k + 1) m).map (v_k A)).filter (fun x => x.2.1 == nI o)).length ≤ m := by
          refine Nat.le_trans (List.length_filter_le _ _) ?_
          rw [List.length_map, List.length_range']
          exact Nat.le_refl _
        rw [List.length_cons] at hl
        rw [← c2, i_eq (by omega) (by omega)] at e
        have q0 : q = 0 := by omega
        subst q0
        cases h
        rfl
      · rw [if_neg c2, i_a1]
        refine ⟨fun q x h e => ?_, fun h => j2 (fun q x hq e => h (q + 1) x (by rw [List.getElem?_cons_succ]; exact hq) (by rw [e, show n + 1 + q = n + (q + 1) by omega]))⟩
        cases q with
        | zero => exact absurd e.symm c2
        | succ q =>
          rw [List.getElem?_cons_succ] at h
          exact j1 q x h (by rw [e, show n + (q + 1) = n + 1 + q by omega])
    · have hb : ¬ ((v_k A k).2.1 == nI o) = true := by rw [beq_iff_eq]; exact c
      rw [if_neg c, List.filter_cons_of_neg (p := fun x : v_LT => x.2.1 == nI o) hb]
      exact ⟨i1, i2⟩
theorem t_lock (hg : e_GK g) (hA : e_AK g) {o i w : Int32} : TW g own r0 101 228 [.int o, .int i, .int w] := by
  refine TWq (fun c Z P U r S hc hV => ?_)
  obtain ⟨N, n, b, l, nl, nw, nr, na, ne, ch, T, hI, hK, hR⟩ := hV
  obtain ⟨n1, n2⟩ := nl_le hI.2.1 hI.2.2.2.1 hI.1.2.2.1.1 hI.2.2.2.2.2.2.1
  obtain ⟨E, kLg, ⟨hs1, hS1⟩, ⟨hs5, hS5⟩, kDe, kEn, kAs, kLk, kVe, kMi⟩ := hK
  have tO := E.2.1
  have n40 := hs1.2.2.1
  have obj : S.1 3 = nI n := hI.2.2.2.2.2.1.1
  refine ⟨y_lock o i w nl S, fun Ψ B q => ?_, fun M h Φ q => c_lock hg (by omega) hI.2.2.2.1.1 q⟩
  refine e_call (cd := cd101) hg ok101 (by rw [mL101]; exact Nat.le_of_ble_eq_true rfl) ?_
  rw [mL101]
  simp only [x_ini, x_inr, x_inn, x_inq, x_inl, x_in0, x_rp0, x_rps, Nat.reduceSub]
  simp (decide := true) (disch := first | assumption | omega) only [↓u101_0, ↓u101_21, ↓u101_23, ↓u101_39, ↓u101_42, ↓x_nil, ↓x_om, ↓x_aload_0r, ↓x_aload_0n, ↓x_aload_0q, ↓x_iload_1, ↓x_invokevirtual, mt_12_136, x_ps0, x_ps1, x_l40, x_l41, x_l42, x_l43, x_l44, ↓x_cv1, ↓x_astore_4r, ↓x_astore_4n, ↓x_astore_4q, x_cl_i, x_cl_r, x_cl_n, x_cl_q, x_cl_0, x_cl_l, ↓x_aload_4r, ↓x_aload_4n, ↓x_aload_4q, ↓x_ifnull_n, ↓x_ifnull_r, ↓x_ifnull_q, ↓x_iload_3, ↓x_if_lt, ↓x_iconst_3, ↓x_icmp_le, ↓x_iconst_m1, ↓x_ireturn, rt101, ↓x_iload_2, ↓x_getfield, ft_12_243, mt_12_165, ↓x_cv0, ↓x_icmp_lt, ↓x_bipush_m9, mt_12_246, ↓x_checkcast, ↓x_ckr, ↓x_ckn, ct_12_235, mt_12_250, Int.reduceAdd, Nat.reduceAdd, true_and, and_true, true_or, or_true, false_or, or_false, reduceCtorEq, false_and, and_false, and_self, or_self, false_implies, true_implies, not_true_eq_false, not_false_eq_true, implies_true, Option.some.injEq, ki12, kg9, kv9_1, kiL30, kiL31, kiL32, kg2, kg3, kg7, ki3, up_s, up_n]
  refine h_spotOf hg E.1 tO hs1 kLk.1 ?_
  have hO : (k_sO U own n o = none ∧ y_isIn o 0 (nI n - 1) = false) ∨ ∃ j, j < n ∧ o = nI j ∧ k_sO U own n o = some (k_sp U own j) ∧ y_isIn o 0 (nI n - 1) = true := by
    rcases tO_ok (U := U) (s := 0) (n := n) (o := o) n40 with ⟨h1, h2⟩ | ⟨j, j1, j2, h1, h2⟩
    · refine Or.inl ⟨?_, h2⟩
      unfold k_tO at h1
      unfold k_sO
      by_cases cc : 0 ≤ o ∧ o < nI n
      · rw [if_pos cc] at h1; cases h1
      · rw [if_neg cc]
    · exact Or.inr ⟨j, j1, j2, by rw [j2]; exact k_sO_s j1 n40, h2⟩
  unfold y_lock at q
  rw [obj] at q
  rcases hO with ⟨h1, h2⟩ | ⟨j, j1, j2, h1, h2⟩
  · rw [h1, k_rfn]
    rw [h2, if_neg (fun z => by cases z.1)] at q
    simp (decide := true) (disch := first | assumption | omega) only [↓u101_0, ↓u101_21, ↓u101_23, ↓u101_39, ↓u101_42, ↓x_nil, ↓x_om, ↓x_aload_0r, ↓x_aload_0n, ↓x_aload_0q, ↓x_iload_1, ↓x_invokevirtual, mt_12_136, x_ps0, x_ps1, x_l40, x_l41, x_l42, x_l43, x_l44, ↓x_cv1, ↓x_astore_4r, ↓x_astore_4n, ↓x_astore_4q, x_cl_i, x_cl_r, x_cl_n, x_cl_q, x_cl_0, x_cl_l, ↓x_aload_4r, ↓x_aload_4n, ↓x_aload_4q, ↓x_ifnull_n, ↓x_ifnull_r, ↓x_ifnull_q, ↓x_iload_3, ↓x_if_lt, ↓x_iconst_3, ↓x_icmp_le, ↓x_iconst_m1, ↓x_ireturn, rt101, ↓x_iload_2, ↓x_getfield, ft_12_243, mt_12_165, ↓x_cv0, ↓x_icmp_lt, ↓x_bipush_m9, mt_12_246, ↓x_checkcast, ↓x_ckr, ↓x_ckn, ct_12_235, mt_12_250, Int.reduceAdd, Nat.reduceAdd, true_and, and_true, true_or, or_true, false_or, or_false, reduceCtorEq, false_and, and_false, and_self, or_self, false_implies, true_implies, not_true_eq_false, not_false_eq_true, implies_true, Option.some.injEq, ki12, kg9, kv9_1, kiL30, kiL31, kiL32, kg2, kg3, kg7, ki3, up_s, up_n]
    exact q
  · have ts := k_sp_t E.1 tO kLk.1 j1
    obtain ⟨s1, s2, _⟩ := E.1.spt ts
    have len : (k_hl U own j).length = (v_LO (nI j) (v_L nl S.2)).length := by
      have := congrArg List.length (kLk.2.1 j j1).1
      rw [List.length_map, List.length_map] at this
      exact this
    have hle : (k_hl U own j).length ≤ 2000 := by
      rw [len]
      have := n2 j; omega
    have hsz : U.2.1 (k_sp U own j + 1) = k_hl U own j := rfl
    rw [h1, k_rfs]
    simp (decide := true) (disch := first | assumption | omega) only [↓u101_0, ↓u101_21, ↓u101_23, ↓u101_39, ↓u101_42, ↓x_nil, ↓x_om, ↓x_aload_0r, ↓x_aload_0n, ↓x_aload_0q, ↓x_iload_1, ↓x_invokevirtual, mt_12_136, x_ps0, x_ps1, x_l40, x_l41, x_l42, x_l43, x_l44, ↓x_cv1, ↓x_astore_4r, ↓x_astore_4n, ↓x_astore_4q, x_cl_i, x_cl_r, x_cl_n, x_cl_q, x_cl_0, x_cl_l, ↓x_aload_4r, ↓x_aload_4n, ↓x_aload_4q, ↓x_ifnull_n, ↓x_ifnull_r, ↓x_ifnull_q, ↓x_iload_3, ↓x_if_lt, ↓x_iconst_3, ↓x_icmp_le, ↓x_iconst_m1, ↓x_ireturn, rt101, ↓x_iload_2, ↓x_getfield, ft_12_243, mt_12_165, ↓x_cv0, ↓x_icmp_lt, ↓x_bipush_m9, mt_12_246, ↓x_checkcast, ↓x_ckr, ↓x_ckn, ct_12_235, mt_12_250, Int.reduceAdd, Nat.reduceAdd, true_and, and_true, true_or, or_true, false_or, or_false, reduceCtorEq, false_and, and_false, and_self, or_self, false_implies, true_implies, not_true_eq_false, not_false_eq_true, implies_true, Option.some.injEq, ki12, kg9, kv9_1, kiL30, kiL31, kiL32, kg2, kg3, kg7, ki3, up_s, up_n]
    refine ⟨fun c1 => b_q q (by rw [in_fl c1, if_neg (fun z => by cases z.2)]), fun c1 => ⟨fun c2 => ?_, fun c2 => b_q q (by rw [in_f (fun z => c2 z.2), if_neg (fun z => by cases z.2)])⟩⟩
    have hw : y_isIn w 0 3 = true := in_tr (Int32.not_lt.mp c1) c2
    rw [h2, hw, if_pos ⟨rfl, rfl⟩, j2] at q
    obtain ⟨k1, k2⟩ := lockR_ok (o := j) (i := i) (what := w) (A := S.2) nl 0 0 (by have := hI.2.2.2.1.2.2.1; omega)
    rw [← List.range_eq_range'] at k1 k2
    have eL : ((List.range nl).map (v_k S.2)).filter (fun x => x.2.1 == nI j) = v_LO (nI j) (v_L nl S.2) := rfl
    rw [eL] at k1 k2
    rw [show (0 : Int32) = nI 0 from rfl] at q
    refine ⟨fun c3 => ?_, fun c3 => l_size hA (k_tL31 s1) ?_⟩
    · rw [k2 (fun p x hp e => by
        have hl := (List.getElem?_eq_some_iff.mp hp).1
        rw [e, show (0 : Int32) = nI 0 from rfl, i_lt (by omega) (by omega)] at c3
        omega)] at q
      exact q
    rw [hsz]
    simp (decide := true) (disch := first | assumption | omega) only [↓u101_0, ↓u101_21, ↓u101_23, ↓u101_39, ↓u101_42, ↓x_nil, ↓x_om, ↓x_aload_0r, ↓x_aload_0n, ↓x_aload_0q, ↓x_iload_1, ↓x_invokevirtual, mt_12_136, x_ps0, x_ps1, x_l40, x_l41, x_l42, x_l43, x_l44, ↓x_cv1, ↓x_astore_4r, ↓x_astore_4n, ↓x_astore_4q, x_cl_i, x_cl_r, x_cl_n, x_cl_q, x_cl_0, x_cl_l, ↓x_aload_4r, ↓x_aload_4n, ↓x_aload_4q, ↓x_ifnull_n, ↓x_ifnull_r, ↓x_ifnull_q, ↓x_iload_3, ↓x_if_lt, ↓x_iconst_3, ↓x_icmp_le, ↓x_iconst_m1, ↓x_ireturn, rt101, ↓x_iload_2, ↓x_getfield, ft_12_243, mt_12_165, ↓x_cv0, ↓x_icmp_lt, ↓x_bipush_m9, mt_12_246, ↓x_checkcast, ↓x_ckr, ↓x_ckn, ct_12_235, mt_12_250, Int.reduceAdd, Nat.reduceAdd, true_and, and_true, true_or, or_true, false_or, or_false, reduceCtorEq, false_and, and_false, and_self, or_self, false_implies, true_implies, not_true_eq_false, not_false_eq_true, implies_true, Option.some.injEq, ki12, kg9, kv9_1, kiL30, kiL31, kiL32, kg2, kg3, kg7, ki3, up_s, up_n]
    refine ⟨fun c4 => ?_, fun c4 => ?_⟩
    rotate_left
    · rw [k2 (fun p x hp e => by
        have hl := (List.getElem?_eq_some_iff.mp hp).1
        rw [e, i_lt (by omega) (by omega)] at c4
        omega)] at q
      exact q
    obtain ⟨p, hp, rfl⟩ := in_ge (m := (k_hl U own j).length) (by omega) c3 (Int32.not_le.mpr c4)
    have hx : (k_hl U own j)[p]? = some ((k_hl U own j)[p]'hp) := List.getElem?_eq_getElem hp
    generalize (k_hl U own j)[p]'hp = y at hx
    have hy := List.mem_of_getElem? hx
    have ty : Z.1 y = 4 := E.1.llo s1 hy
    have td : Z.1 (Z.2.2 y) = 3 := E.1.lck ty
    have hv : ∃ x, (v_LO (nI j) (v_L nl S.2))[p]? = some x ∧ LN x = LV Z P (if 0 = 0 then own else dl U own 0) y := by
      have h3 := congrArg (fun z => z[p]?) (kLk.2.1 j j1).1
      simp only [List.getElem?_map, hx, Option.map_some] at h3
      cases h4 : (v_LO (nI j) (v_L nl S.2))[p]? with
      | none => rw [h4] at h3; cases h3
      | some x =>
        rw [h4] at h3
        exact ⟨x, rfl, by simpa using h3.symm⟩
    obtain ⟨x, x1, x2⟩ := hv
    rw [k1 p x x1 (by rw [Nat.zero_add])] at q
    refine l_get hA (k_tL31 s1) (E.1.cap _).1 hx ?_
    simp (decide := true) (disch := first | assumption | omega) only [↓u101_0, ↓u101_21, ↓u101_23, ↓u101_39, ↓u101_42, ↓x_nil, ↓x_om, ↓x_aload_0r, ↓x_aload_0n, ↓x_aload_0q, ↓x_iload_1, ↓x_invokevirtual, mt_12_136, x_ps0, x_ps1, x_l40, x_l41, x_l42, x_l43, x_l44, ↓x_cv1, ↓x_astore_4r, ↓x_astore_4n, ↓x_astore_4q, x_cl_i, x_cl_r, x_cl_n, x_cl_q, x_cl_0, x_cl_l, ↓x_aload_4r, ↓x_aload_4n, ↓x_aload_4q, ↓x_ifnull_n, ↓x_ifnull_r, ↓x_ifnull_q, ↓x_iload_3, ↓x_if_lt, ↓x_iconst_3, ↓x_icmp_le, ↓x_iconst_m1, ↓x_ireturn, rt101, ↓x_iload_2, ↓x_getfield, ft_12_243, mt_12_165, ↓x_cv0, ↓x_icmp_lt, ↓x_bipush_m9, mt_12_246, ↓x_checkcast, ↓x_ckr, ↓x_ckn, ct_12_235, mt_12_250, Int.reduceAdd, Nat.reduceAdd, true_and, and_true, true_or, or_true, false_or, or_false, reduceCtorEq, false_and, and_false, and_self, or_self, false_implies, true_implies, not_true_eq_false, not_false_eq_true, implies_true, Option.some.injEq, ki12, kg9, kv9_1, kiL30, kiL31, kiL32, kg2, kg3, kg7, ki3, up_s, up_n]
    refine h_tellL hg ty td ?_
    simp (decide := true) (disch := first | assumption | omega) only [↓u101_0, ↓u101_21, ↓u101_23, ↓u101_39, ↓u101_42, ↓x_nil, ↓x_om, ↓x_aload_0r, ↓x_aload_0n, ↓x_aload_0q, ↓x_iload_1, ↓x_invokevirtual, mt_12_136, x_ps0, x_ps1, x_l40, x_l41, x_l42, x_l43, x_l44, ↓x_cv1, ↓x_astore_4r, ↓x_astore_4n, ↓x_astore_4q, x_cl_i, x_cl_r, x_cl_n, x_cl_q, x_cl_0, x_cl_l, ↓x_aload_4r, ↓x_aload_4n, ↓x_aload_4q, ↓x_ifnull_n, ↓x_ifnull_r, ↓x_ifnull_q, ↓x_iload_3, ↓x_if_lt, ↓x_iconst_3, ↓x_icmp_le, ↓x_iconst_m1, ↓x_ireturn, rt101, ↓x_iload_2, ↓x_getfield, ft_12_243, mt_12_165, ↓x_cv0, ↓x_icmp_lt, ↓x_bipush_m9, mt_12_246, ↓x_checkcast, ↓x_ckr, ↓x_ckn, ct_12_235, mt_12_250, Int.reduceAdd, Nat.reduceAdd, true_and, and_true, true_or, or_true, false_or, or_false, reduceCtorEq, false_and, and_false, and_self, or_self, false_implies, true_implies, not_true_eq_false, not_false_eq_true, implies_true, Option.some.injEq, ki12, kg9, kv9_1, kiL30, kiL31, kiL32, kg2, kg3, kg7, ki3, up_s, up_n]
    refine b_q q ?_
    have y0 : x.1 = P.1 40 (Z.2.2 y) := congrArg (fun z => z.1) x2
    have y1 : x.2.2.1 = P.1 62 y := congrArg (fun z => z.2.2.1) x2
    have y2 : (if x.2.2.1 = 4 then x.2.2.2.1 else -9) = P.1 63 y := congrArg (fun z => z.2.2.2.1) x2
    have y3 : (if x.2.2.1 = 4 then x.2.2.2.2.1 else -9) = P.1 64 y := congrArg (fun z => z.2.2.2.2.1) x2
    unfold tlM k_tlL
    rw [← y0, ← y1, ← y2, ← y3]
    by_cases w0 : w = 0
    · rw [if_pos w0, if_pos w0]
    · rw [if_neg w0, if_neg w0]
      by_cases w1 : w = 1
      · rw [if_pos w1, if_pos w1]
      · rw [if_neg w1, if_neg w1]
        by_cases w4 : x.2.2.1 = 4
        · rw [if_pos w4, if_pos w4, if_pos w4]
        · rw [if_neg w4, if_neg w4, if_neg w4]
          split <;> rfl
theorem waitsR_ok {o : Nat} {i what : Int32} {A : m_A} : ∀ (m k n : Nat), n + m ≤ 10000 → (∀ q x, (((List.range' k m).map (v_w A)).filter (fun x => x.2.1 == nI o))[q]? = some x → i = nI (n + q) → y_waitsR (nI o) i what A k m (nI n) = tlW x what) ∧ ((∀ q x, (((List.range' k m).map (v_w A)).filter (fun x => x.2.1 == nI o))[q]? = some x → ¬ i = nI (n + q)) → y_waitsR (nI o) i what A k m (nI n) = -9)
  | 0, k, n, _ => ⟨(fun q x h => by simp at h), fun _ => rfl⟩
  | m + 1, k, n, hn => by
    obtain ⟨i1, i2⟩ := waitsR_ok (o := o) (i := i) (what := what) (A := A) m (k + 1) n (by omega)
    obtain ⟨j1, j2⟩ := waitsR_ok (o := o) (i := i) (what := what) (A := A) m (k + 1) (n + 1) (by omega)
    rw [show List.range' k (m + 1) = k :: List.range' (k + 1) m from rfl, List.map_cons, y_waitsR]
    by_cases c : A 82 k = nI o
    · have hb : (v_w A k).2.1 == nI o := by rw [beq_iff_eq]; exact c
      rw [if_pos c, List.filter_cons_of_pos (p := fun x : v_WT => x.2.1 == nI o) hb]
      by_cases c2 : nI n = i
      · rw [if_pos c2]
        refine ⟨fun q x h e => ?_, fun h => absurd c2.symm (h 0 _ rfl)⟩
        have hl := (List.getElem?_eq_some_iff.mp h).1
        have hlen : (((List.range' (k + 1) m).map (v_w A)).filter (fun x => x.2.1 == nI o)).length ≤ m := by
          refine Nat.le_trans (List.length_filter_le _ _) ?_
          rw [List.length_map, List.length_range']
          exact Nat.le_refl _
        rw [List.length_cons] at hl
        rw [← c2, i_eq (by omega) (by omega)] at e
        have q0 : q = 0 := by omega
        subst q0
        cases h
        rfl
      · rw [if_neg c2, i_a1]
        refine ⟨fun q x h e => ?_, fun h => j2 (fun q x hq e => h (q + 1) x (by rw [List.getElem?_cons_succ]; exact hq) (by rw [e, show n + 1 + q = n + (q + 1) by omega]))⟩
        cases q with
        | zero => exact absurd e.symm c2
        | succ q =>
          rw [List.getElem?_cons_succ] at h
          exact j1 q x h (by rw [e, show n + (q + 1) = n + 1 + q by omega])
    · have hb : ¬ ((v_w A k).2.1 == nI o) = true := by rw [beq_iff_eq]; exact c
      rw [if_neg c, List.filter_cons_of_neg (p := fun x : v_WT => x.2.1 == nI o) hb]
      exact ⟨i1, i2⟩
theorem t_waits (hg : e_GK g) (hA : e_AK g) {o i w : Int32} : TW g own r0 102 229 [.int o, .int i, .int w] := by
  refine TWq (fun c Z P U r S hc hV => ?_)
  obtain ⟨N, n, b, l, nl, nw, nr, na, ne, ch, T, hI, hK, hR⟩ := hV
  obtain ⟨n1, n2⟩ := nl_le hI.2.1 hI.2.2.2.1 hI.1.2.2.1.1 hI.2.2.2.2.2.2.1
  obtain ⟨E, kLg, ⟨hs1, hS1⟩, ⟨hs5, hS5⟩, kDe, kEn, kAs, kLk, kVe, kMi⟩ := hK
  have tO := E.2.1
  have n40 := hs1.2.2.1
  have obj : S.1 3 = nI n := hI.2.2.2.2.2.1.1
  refine ⟨y_waits o i w nw S, fun Ψ B q => ?_, fun M h Φ q => c_waits hg (by have := hI.2.2.2.1.2.2.1; omega) hI.2.2.2.1.2.1 q⟩
  refine e_call (cd := cd102) hg ok102 (by rw [mL102]; exact Nat.le_of_ble_eq_true rfl) ?_
  rw [mL102]
  simp only [x_ini, x_inr, x_inn, x_inq, x_inl, x_in0, x_rp0, x_rps, Nat.reduceSub]
  simp (decide := true) (disch := first | assumption | omega) only [↓u102_0, ↓u102_21, ↓u102_23, ↓u102_39, ↓u102_42, ↓x_nil, ↓x_om, ↓x_aload_0r, ↓x_aload_0n, ↓x_aload_0q, ↓x_iload_1, ↓x_invokevirtual, mt_12_136, x_ps0, x_ps1, x_l40, x_l41, x_l42, x_l43, x_l44, ↓x_cv1, ↓x_astore_4r, ↓x_astore_4n, ↓x_astore_4q, x_cl_i, x_cl_r, x_cl_n, x_cl_q, x_cl_0, x_cl_l, ↓x_aload_4r, ↓x_aload_4n, ↓x_aload_4q, ↓x_ifnull_n, ↓x_ifnull_r, ↓x_ifnull_q, ↓x_iload_3, ↓x_if_lt, ↓x_iconst_3, ↓x_icmp_le, ↓x_iconst_m1, ↓x_ireturn, rt102, ↓x_iload_2, ↓x_getfield, ft_12_254, mt_12_165, ↓x_cv0, ↓x_icmp_lt, ↓x_bipush_m9, mt_12_246, ↓x_checkcast, ↓x_ckr, ↓x_ckn, ct_12_235, mt_12_250, Int.reduceAdd, Nat.reduceAdd, true_and, and_true, true_or, or_true, false_or, or_false, reduceCtorEq, false_and, and_false, and_self, or_self, false_implies, true_implies, not_true_eq_false, not_false_eq_true, implies_true, Option.some.injEq, ki12, kg9, kv9_2, kiL30, kiL31, kiL32, kg2, kg3, kg7, ki3, up_s, up_n]
  refine h_spotOf hg E.1 tO hs1 kLk.1 ?_
  have hO : (k_sO U own n o = none ∧ y_isIn o 0 (nI n - 1) = false) ∨ ∃ j, j < n ∧ o = nI j ∧ k_sO U own n o = some (k_sp U own j) ∧ y_isIn o 0 (nI n - 1) = true := by
    rcases tO_ok (U := U) (s := 0) (n := n) (o := o) n40 with ⟨h1, h2⟩ | ⟨j, j1, j2, h1, h2⟩
    · refine Or.inl ⟨?_, h2⟩
      unfold k_tO at h1
      unfold k_sO
      by_cases cc : 0 ≤ o ∧ o < nI n
      · rw [if_pos cc] at h1; cases h1
      · rw [if_neg cc]
    · exact Or.inr ⟨j, j1, j2, by rw [j2]; exact k_sO_s j1 n40, h2⟩
  unfold y_waits at q
  rw [obj] at q
  rcases hO with ⟨h1, h2⟩ | ⟨j, j1, j2, h1, h2⟩
  · rw [h1, k_rfn]
    rw [h2, if_neg (fun z => by cases z.1)] at q
    simp (decide := true) (disch := first | assumption | omega) only [↓u102_0, ↓u102_21, ↓u102_23, ↓u102_39, ↓u102_42, ↓x_nil, ↓x_om, ↓x_aload_0r, ↓x_aload_0n, ↓x_aload_0q, ↓x_iload_1, ↓x_invokevirtual, mt_12_136, x_ps0, x_ps1, x_l40, x_l41, x_l42, x_l43, x_l44, ↓x_cv1, ↓x_astore_4r, ↓x_astore_4n, ↓x_astore_4q, x_cl_i, x_cl_r, x_cl_n, x_cl_q, x_cl_0, x_cl_l, ↓x_aload_4r, ↓x_aload_4n, ↓x_aload_4q, ↓x_ifnull_n, ↓x_ifnull_r, ↓x_ifnull_q, ↓x_iload_3, ↓x_if_lt, ↓x_iconst_3, ↓x_icmp_le, ↓x_iconst_m1, ↓x_ireturn, rt102, ↓x_iload_2, ↓x_getfield, ft_12_254, mt_12_165, ↓x_cv0, ↓x_icmp_lt, ↓x_bipush_m9, mt_12_246, ↓x_checkcast, ↓x_ckr, ↓x_ckn, ct_12_235, mt_12_250, Int.reduceAdd, Nat.reduceAdd, true_and, and_true, true_or, or_true, false_or, or_false, reduceCtorEq, false_and, and_false, and_self, or_self, false_implies, true_implies, not_true_eq_false, not_false_eq_true, implies_true, Option.some.injEq, ki12, kg9, kv9_2, kiL30, kiL31, kiL32, kg2, kg3, kg7, ki3, up_s, up_n]
    exact q
  · have ts := k_sp_t E.1 tO kLk.1 j1
    obtain ⟨s1, s2, _⟩ := E.1.spt ts
    have len : (k_ql U own j).length = (v_WO (nI j) (v_W nw S.2)).length := by
      have := congrArg List.length (kLk.2.1 j j1).2.1
      rw [List.length_map, List.length_map] at this
      exact this
    have hle : (k_ql U own j).length ≤ 2000 := by
      rw [len]
      rw [← len]; have := ql_len kLk j1; have := hI.2.2.2.1.2.2.1; omega
    have hsz : U.2.1 (k_sp U own j + 2) = k_ql U own j := rfl
    rw [h1, k_rfs]
    simp (decide := true) (disch := first | assumption | omega) only [↓u102_0, ↓u102_21, ↓u102_23, ↓u102_39, ↓u102_42, ↓x_nil, ↓x_om, ↓x_aload_0r, ↓x_aload_0n, ↓x_aload_0q, ↓x_iload_1, ↓x_invokevirtual, mt_12_136, x_ps0, x_ps1, x_l40, x_l41, x_l42, x_l43, x_l44, ↓x_cv1, ↓x_astore_4r, ↓x_astore_4n, ↓x_astore_4q, x_cl_i, x_cl_r, x_cl_n, x_cl_q, x_cl_0, x_cl_l, ↓x_aload_4r, ↓x_aload_4n, ↓x_aload_4q, ↓x_ifnull_n, ↓x_ifnull_r, ↓x_ifnull_q, ↓x_iload_3, ↓x_if_lt, ↓x_iconst_3, ↓x_icmp_le, ↓x_iconst_m1, ↓x_ireturn, rt102, ↓x_iload_2, ↓x_getfield, ft_12_254, mt_12_165, ↓x_cv0, ↓x_icmp_lt, ↓x_bipush_m9, mt_12_246, ↓x_checkcast, ↓x_ckr, ↓x_ckn, ct_12_235, mt_12_250, Int.reduceAdd, Nat.reduceAdd, true_and, and_true, true_or, or_true, false_or, or_false, reduceCtorEq, false_and, and_false, and_self, or_self, false_implies, true_implies, not_true_eq_false, not_false_eq_true, implies_true, Option.some.injEq, ki12, kg9, kv9_2, kiL30, kiL31, kiL32, kg2, kg3, kg7, ki3, up_s, up_n]
    refine ⟨fun c1 => b_q q (by rw [in_fl c1, if_neg (fun z => by cases z.2)]), fun c1 => ⟨fun c2 => ?_, fun c2 => b_q q (by rw [in_f (fun z => c2 z.2), if_neg (fun z => by cases z.2)])⟩⟩
    have hw : y_isIn w 0 3 = true := in_tr (Int32.not_lt.mp c1) c2
    rw [h2, hw, if_pos ⟨rfl, rfl⟩, j2] at q
    obtain ⟨k1, k2⟩ := waitsR_ok (o := j) (i := i) (what := w) (A := S.2) nw 0 0 (by have := hI.2.2.2.1.2.2.1; omega)
    rw [← List.range_eq_range'] at k1 k2
    have eL : ((List.range nw).map (v_w S.2)).filter (fun x => x.2.1 == nI j) = v_WO (nI j) (v_W nw S.2) := rfl
    rw [eL] at k1 k2
    rw [show (0 : Int32) = nI 0 from rfl] at q
    refine ⟨fun c3 => ?_, fun c3 => l_size hA (k_tL31 s2) ?_⟩
    · rw [k2 (fun p x hp e => by
        have hl := (List.getElem?_eq_some_iff.mp hp).1
        rw [e, show (0 : Int32) = nI 0 from rfl, i_lt (by omega) (by omega)] at c3
        omega)] at q
      exact q
    rw [hsz]
    simp (decide := true) (disch := first | assumption | omega) only [↓u102_0, ↓u102_21, ↓u102_23, ↓u102_39, ↓u102_42, ↓x_nil, ↓x_om, ↓x_aload_0r, ↓x_aload_0n, ↓x_aload_0q, ↓x_iload_1, ↓x_invokevirtual, mt_12_136, x_ps0, x_ps1, x_l40, x_l41, x_l42, x_l43, x_l44, ↓x_cv1, ↓x_astore_4r, ↓x_astore_4n, ↓x_astore_4q, x_cl_i, x_cl_r, x_cl_n, x_cl_q, x_cl_0, x_cl_l, ↓x_aload_4r, ↓x_aload_4n, ↓x_aload_4q, ↓x_ifnull_n, ↓x_ifnull_r, ↓x_ifnull_q, ↓x_iload_3, ↓x_if_lt, ↓x_iconst_3, ↓x_icmp_le, ↓x_iconst_m1, ↓x_ireturn, rt102, ↓x_iload_2, ↓x_getfield, ft_12_254, mt_12_165, ↓x_cv0, ↓x_icmp_lt, ↓x_bipush_m9, mt_12_246, ↓x_checkcast, ↓x_ckr, ↓x_ckn, ct_12_235, mt_12_250, Int.reduceAdd, Nat.reduceAdd, true_and, and_true, true_or, or_true, false_or, or_false, reduceCtorEq, false_and, and_false, and_self, or_self, false_implies, true_implies, not_true_eq_false, not_false_eq_true, implies_true, Option.some.injEq, ki12, kg9, kv9_2, kiL30, kiL31, kiL32, kg2, kg3, kg7, ki3, up_s, up_n]
    refine ⟨fun c4 => ?_, fun c4 => ?_⟩
    rotate_left
    · rw [k2 (fun p x hp e => by
        have hl := (List.getElem?_eq_some_iff.mp hp).1
        rw [e, i_lt (by omega) (by omega)] at c4
        omega)] at q
      exact q
    obtain ⟨p, hp, rfl⟩ := in_ge (m := (k_ql U own j).length) (by omega) c3 (Int32.not_le.mpr c4)
    have hx : (k_ql U own j)[p]? = some ((k_ql U own j)[p]'hp) := List.getElem?_eq_getElem hp
    generalize (k_ql U own j)[p]'hp = y at hx
    have hy := List.mem_of_getElem? hx
    have ty : Z.1 y = 4 := E.1.llo s2 hy
    have td : Z.1 (Z.2.2 y) = 3 := E.1.lck ty
    have hv : ∃ x, (v_WO (nI j) (v_W nw S.2))[p]? = some x ∧ WN x = WV Z P y := by
      have h3 := congrArg (fun z => z[p]?) (kLk.2.1 j j1).2.1
      simp only [List.getElem?_map, hx, Option.map_some] at h3
      cases h4 : (v_WO (nI j) (v_W nw S.2))[p]? with
      | none => rw [h4] at h3; cases h3
      | some x =>
        rw [h4] at h3
        exact ⟨x, rfl, by simpa using h3.symm⟩
    obtain ⟨x, x1, x2⟩ := hv
    rw [k1 p x x1 (by rw [Nat.zero_add])] at q
    refine l_get hA (k_tL31 s2) (E.1.cap _).1 hx ?_
    simp (decide := true) (disch := first | assumption | omega) only [↓u102_0, ↓u102_21, ↓u102_23, ↓u102_39, ↓u102_42, ↓x_nil, ↓x_om, ↓x_aload_0r, ↓x_aload_0n, ↓x_aload_0q, ↓x_iload_1, ↓x_invokevirtual, mt_12_136, x_ps0, x_ps1, x_l40, x_l41, x_l42, x_l43, x_l44, ↓x_cv1, ↓x_astore_4r, ↓x_astore_4n, ↓x_astore_4q, x_cl_i, x_cl_r, x_cl_n, x_cl_q, x_cl_0, x_cl_l, ↓x_aload_4r, ↓x_aload_4n, ↓x_aload_4q, ↓x_ifnull_n, ↓x_ifnull_r, ↓x_ifnull_q, ↓x_iload_3, ↓x_if_lt, ↓x_iconst_3, ↓x_icmp_le, ↓x_iconst_m1, ↓x_ireturn, rt102, ↓x_iload_2, ↓x_getfield, ft_12_254, mt_12_165, ↓x_cv0, ↓x_icmp_lt, ↓x_bipush_m9, mt_12_246, ↓x_checkcast, ↓x_ckr, ↓x_ckn, ct_12_235, mt_12_250, Int.reduceAdd, Nat.reduceAdd, true_and, and_true, true_or, or_true, false_or, or_false, reduceCtorEq, false_and, and_false, and_self, or_self, false_implies, true_implies, not_true_eq_false, not_false_eq_true, implies_true, Option.some.injEq, ki12, kg9, kv9_2, kiL30, kiL31, kiL32, kg2, kg3, kg7, ki3, up_s, up_n]
    refine h_tellL hg ty td ?_
    simp (decide := true) (disch := first | assumption | omega) only [↓u102_0, ↓u102_21, ↓u102_23, ↓u102_39, ↓u102_42, ↓x_nil, ↓x_om, ↓x_aload_0r, ↓x_aload_0n, ↓x_aload_0q, ↓x_iload_1, ↓x_invokevirtual, mt_12_136, x_ps0, x_ps1, x_l40, x_l41, x_l42, x_l43, x_l44, ↓x_cv1, ↓x_astore_4r, ↓x_astore_4n, ↓x_astore_4q, x_cl_i, x_cl_r, x_cl_n, x_cl_q, x_cl_0, x_cl_l, ↓x_aload_4r, ↓x_aload_4n, ↓x_aload_4q, ↓x_ifnull_n, ↓x_ifnull_r, ↓x_ifnull_q, ↓x_iload_3, ↓x_if_lt, ↓x_iconst_3, ↓x_icmp_le, ↓x_iconst_m1, ↓x_ireturn, rt102, ↓x_iload_2, ↓x_getfield, ft_12_254, mt_12_165, ↓x_cv0, ↓x_icmp_lt, ↓x_bipush_m9, mt_12_246, ↓x_checkcast, ↓x_ckr, ↓x_ckn, ct_12_235, mt_12_250, Int.reduceAdd, Nat.reduceAdd, true_and, and_true, true_or, or_true, false_or, or_false, reduceCtorEq, false_and, and_false, and_self, or_self, false_implies, true_implies, not_true_eq_false, not_false_eq_true, implies_true, Option.some.injEq, ki12, kg9, kv9_2, kiL30, kiL31, kiL32, kg2, kg3, kg7, ki3, up_s, up_n]
    refine b_q q ?_
    have y0 : x.1 = P.1 40 (Z.2.2 y) := congrArg (fun z => z.1) x2
    have y1 : x.2.2.1 = P.1 62 y := congrArg (fun z => z.2.2.1) x2
    have y2 : (if x.2.2.1 = 4 then x.2.2.2.1 else -9) = P.1 63 y := congrArg (fun z => z.2.2.2.1) x2
    have y3 : (if x.2.2.1 = 4 then x.2.2.2.2.1 else -9) = P.1 64 y := congrArg (fun z => z.2.2.2.2.1) x2
    unfold tlW k_tlL
    rw [← y0, ← y1, ← y2, ← y3]
    by_cases w0 : w = 0
    · rw [if_pos w0, if_pos w0]
    · rw [if_neg w0, if_neg w0]
      by_cases w1 : w = 1
      · rw [if_pos w1, if_pos w1]
      · rw [if_neg w1, if_neg w1]
        by_cases w4 : x.2.2.1 = 4
        · rw [if_pos w4, if_pos w4, if_pos w4]
        · rw [if_neg w4, if_neg w4, if_neg w4]
          split <;> rfl
end UT
