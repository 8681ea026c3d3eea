/-! of -/
section UW
variable {g : e_G} {own : Nat} {r0 : Nat × Nat} {A : m_A} {t : Nat}
theorem ofW_a {v : Int32} : ∀ (m i : Nat), (∀ k, i ≤ k → k < i + m → A 81 k = nI t → A 82 k = v) → y_ofW t A i m v = v
  | 0, _, _ => rfl
  | m + 1, i, h => by
    rw [y_ofW]
    have e : (if A 81 i = nI t then A 82 i else v) = v := by
      split
      · rename_i c; exact h i (by omega) (by omega) c
      · rfl
    rw [e]
    exact ofW_a m (i + 1) (fun k h1 h2 => h k (by omega) (by omega))
theorem ofW_b {v : Int32} : ∀ (m i : Nat) (n : Int32), (∀ k, i ≤ k → k < i + m → A 81 k = nI t → A 82 k = v) → (∃ k, i ≤ k ∧ k < i + m ∧ A 81 k = nI t) → y_ofW t A i m n = v
  | 0, _, _, _, ⟨k, h1, h2, _⟩ => by omega
  | m + 1, i, n, h, ⟨k, h1, h2, h3⟩ => by
    rw [y_ofW]
    by_cases c : A 81 i = nI t
    · rw [if_pos c, h i (by omega) (by omega) c]
      exact ofW_a m (i + 1) (fun k h1 h2 => h k (by omega) (by omega))
    · rw [if_neg c]
      have : k ≠ i := fun e => c (e ▸ h3)
      exact ofW_b m (i + 1) n (fun k h1 h2 => h k (by omega) (by omega)) ⟨k, by omega, by omega, h3⟩
theorem ofW_n : ∀ (m i : Nat) (n : Int32), (∀ k, i ≤ k → k < i + m → ¬ A 81 k = nI t) → y_ofW t A i m n = n
  | 0, _, _, _ => rfl
  | m + 1, i, n, h => by
    rw [y_ofW, if_neg (h i (by omega) (by omega))]
    exact ofW_n m (i + 1) n (fun k h1 h2 => h k (by omega) (by omega))
theorem ofL_ok : ∀ (m i k : Nat), y_ofL t A i m (nI k) = nI (k + (List.range' i m).countP (fun q => decide (A 73 q = nI t)))
  | 0, i, k => rfl
  | m + 1, i, k => by
    rw [y_ofL, show List.range' i (m + 1) = i :: List.range' (i + 1) m from rfl, List.countP_cons]
    by_cases c : A 73 i = nI t
    · rw [if_pos c, i_a1, ofL_ok m (i + 1) (k + 1), if_pos (decide_eq_true c)]
      congr 1
      omega
    · rw [if_neg c, Int32.add_zero, ofL_ok m (i + 1) k, if_neg (by rw [decide_eq_true_eq]; exact c)]
      rfl
theorem t_of (hg : e_GK g) (hA : e_AK g) {t w : Int32} : TW g own r0 100 227 [.int t, .int w] := by
  refine TWq (fun c Z P U r S hc hV => ?_)
  obtain ⟨N, n, b, l, nl, nw, nr, na, ne, ch, T, hI, hK, hR⟩ := hV
  obtain ⟨n1, n2⟩ := nl_le hI.2.1 hI.2.2.2.1 hI.1.2.2.1.1 hI.2.2.2.2.2.2.1
  obtain ⟨E, kLg, ⟨hs1, hS1⟩, ⟨hs5, hS5⟩, kDe, kEn, kAs, kLk, kVe, kMi⟩ := hK
  have tO := E.2.1
  obtain ⟨a1, a2, a3, a4, a5, a6, a7, a8, a9, a10⟩ := E.1.hse tO
  have n40 := hs1.2.2.1
  have b400 := hI.2.1.1
  have hb : S.1 44 = nI b := hI.2.1.2.1
  have hLk := hI.2.2.2.1
  refine ⟨y_of t w nw nl S, fun Ψ B q => ?_, fun M h Φ q => c_of hg b400 (by have := hLk.2.2.1; omega) (by omega) hb hLk.2.1 hLk.1 q⟩
  refine e_call (cd := cd100) hg ok100 (by rw [mL100]; exact Nat.le_of_ble_eq_true rfl) ?_
  rw [mL100]
  simp only [x_ini, x_inr, x_inn, x_inq, x_inl, x_in0, x_rp0, x_rps, Nat.reduceSub]
  simp (decide := true) (disch := first | assumption | omega) only [↓u100_0, ↓u100_12, ↓u100_76, ↓u100_81, ↓u100_86, ↓u100_91, ↓u100_96, ↓u100_101, ↓u100_106, ↓u100_111, ↓u100_116, ↓u100_121, ↓u100_133, ↓u100_140, ↓u100_141, ↓u100_147, ↓u100_152, ↓x_nil, ↓x_om, ↓x_aload_0r, ↓x_aload_0n, ↓x_aload_0q, ↓x_iload_1, ↓x_invokevirtual, mt_12_121, x_ps0, x_ps1, x_l40, x_l41, x_l42, x_l43, x_l44, ↓x_cv1, ↓x_astore_3r, ↓x_astore_3n, ↓x_astore_3q, x_cl_i, x_cl_r, x_cl_n, x_cl_q, x_cl_0, x_cl_l, ↓x_aload_3r, ↓x_aload_3n, ↓x_aload_3q, ↓x_ifnonnull_n, ↓x_ifnonnull_r, ↓x_ifnonnull_q, ↓x_iconst_m1, ↓x_ireturn, rt100, ↓x_iload_2, ↓x_tsw, ↓x_sw0, ↓x_swc, x_ti0, x_ti1, x_ti2, x_ti3, x_ti4, x_ti5, x_ti6, x_ti7, x_ti8, x_ti9, x_ti10, x_ti11, x_tl0, x_tg11, ↓x_getfield, ft_12_125, ft_12_194, ft_12_130, ft_12_197, ft_12_200, ft_12_158, ft_12_210, ft_12_224, ft_12_227, ft_12_230, ↓x_bipush_m9, ↓x_goto, ft_12_234, mt_12_239, ft_12_167, Int.reduceAdd, Nat.reduceAdd, true_and, and_true, true_or, or_true, false_or, or_false, reduceCtorEq, false_and, and_false, and_self, or_self, false_implies, true_implies, not_true_eq_false, not_false_eq_true, implies_true, Option.some.injEq, ki12, kg2, kv2_3, kv2_4, kv2_5, kv2_1, kv2_2, kv2_6, kv2_7, kv2_8, kv2_9, kv2_13, k_ws, k_w2, k_rfs, k_rfn, kg3, kv3_1, kv2_10, up_s, up_n]
  refine h_dealOf hg hA E.1 tO (by rw [kDe.1]; omega) ?_
  unfold y_of at q
  rw [hb] at q
  rcases dO_ok kDe.1 b400 t with ⟨e, hi⟩ | ⟨j, j1, j2, et, e, hi⟩
  · rw [hi, if_neg (fun z => by cases z.1)] at q
    rw [e, k_rfn]
    simp (decide := true) (disch := first | assumption | omega) only [↓u100_0, ↓u100_12, ↓u100_76, ↓u100_81, ↓u100_86, ↓u100_91, ↓u100_96, ↓u100_101, ↓u100_106, ↓u100_111, ↓u100_116, ↓u100_121, ↓u100_133, ↓u100_140, ↓u100_141, ↓u100_147, ↓u100_152, ↓x_nil, ↓x_om, ↓x_aload_0r, ↓x_aload_0n, ↓x_aload_0q, ↓x_iload_1, ↓x_invokevirtual, mt_12_121, x_ps0, x_ps1, x_l40, x_l41, x_l42, x_l43, x_l44, ↓x_cv1, ↓x_astore_3r, ↓x_astore_3n, ↓x_astore_3q, x_cl_i, x_cl_r, x_cl_n, x_cl_q, x_cl_0, x_cl_l, ↓x_aload_3r, ↓x_aload_3n, ↓x_aload_3q, ↓x_ifnonnull_n, ↓x_ifnonnull_r, ↓x_ifnonnull_q, ↓x_iconst_m1, ↓x_ireturn, rt100, ↓x_iload_2, ↓x_tsw, ↓x_sw0, ↓x_swc, x_ti0, x_ti1, x_ti2, x_ti3, x_ti4, x_ti5, x_ti6, x_ti7, x_ti8, x_ti9, x_ti10, x_ti11, x_tl0, x_tg11, ↓x_getfield, ft_12_125, ft_12_194, ft_12_130, ft_12_197, ft_12_200, ft_12_158, ft_12_210, ft_12_224, ft_12_227, ft_12_230, ↓x_bipush_m9, ↓x_goto, ft_12_234, mt_12_239, ft_12_167, Int.reduceAdd, Nat.reduceAdd, true_and, and_true, true_or, or_true, false_or, or_false, reduceCtorEq, false_and, and_false, and_self, or_self, false_implies, true_implies, not_true_eq_false, not_false_eq_true, implies_true, Option.some.injEq, ki12, kg2, kv2_3, kv2_4, kv2_5, kv2_1, kv2_2, kv2_6, kv2_7, kv2_8, kv2_9, kv2_13, k_ws, k_w2, k_rfs, k_rfn, kg3, kv3_1, kv2_10, up_s, up_n]
    exact q
  · have td := (dl_t E kDe.1 j1 j2).1
    have ps := kDe.p j1 j2
    have p0 : P.1 43 (dl U own j) = S.2 47 j := ps (43, 47) (by decide)
    have p1 : P.1 44 (dl U own j) = S.2 48 j := ps (44, 48) (by decide)
    have p2 : P.1 45 (dl U own j) = S.2 51 j := ps (45, 51) (by decide)
    have p3 : P.1 41 (dl U own j) = S.2 49 j := ps (41, 49) (by decide)
    have p4 : P.1 42 (dl U own j) = S.2 50 j := ps (42, 50) (by decide)
    have p5 : P.1 46 (dl U own j) = S.2 52 j := ps (46, 52) (by decide)
    have p6 : P.1 47 (dl U own j) = S.2 55 j := ps (47, 55) (by decide)
    have p7 : P.1 48 (dl U own j) = S.2 56 j := ps (48, 56) (by decide)
    have p8 : P.1 49 (dl U own j) = S.2 57 j := ps (49, 57) (by decide)
    have p11 : P.1 50 (dl U own j) = S.2 58 j := ps (50, 58) (by decide)
    have spt : ∀ o, o < n → Z.1 (k_sp U own o) = 10 := fun o ho => k_sp_t E.1 tO kLk.1 ho
    have num : ∀ u, 1 ≤ u → u ≤ b → P.1 40 (dl U own u) = nI u := fun u u1 u2 => (kDe.2.2.1 u u1 u2).1
    -- locks
    have lks : k_smo (fun o => (U.2.1 (k_sp U own o + 1)).countP (fun y => decide (Z.2.2 y = dl U own j))) 0 n = (List.range' 0 nl).countP (fun q => decide (S.2 73 q = nI j)) := by
      have e1 : ∀ o, o < n → (U.2.1 (k_sp U own o + 1)).countP (fun y => decide (Z.2.2 y = dl U own j)) = (v_LO (nI o) ((v_L nl S.2).filter (fun x => decide (x.1 = nI j)))).length := fun o ho => by
        have s1 : (U.2.1 (k_sp U own o + 1)).countP (fun y => decide (Z.2.2 y = dl U own j)) = ((k_hl U own o).map (LV Z P (if 0 = 0 then own else dl U own 0))).countP (fun x => decide (x.1 = nI j)) := by
          rw [List.countP_map]
          refine List.countP_congr (fun y hy => ?_)
          obtain ⟨u, qq, u1, u2, u3, u4, _⟩ := kLk.2.2.1 o ho y hy
          show decide (Z.2.2 y = dl U own j) = true ↔ decide (P.1 40 (Z.2.2 y) = nI j) = true
          rw [decide_eq_true_eq, decide_eq_true_eq, u4, num u u1 u2, i_eq (by omega) (by omega)]
          exact ⟨fun z => dl_inj kDe.1 kDe.2.1 u1 u2 j1 j2 z, fun z => by rw [z]⟩
        rw [s1, (kLk.2.1 o ho).1, List.countP_map, List.countP_eq_length_filter]
        unfold v_LO
        rw [filt_cm]
        rfl
      rw [smo_cg n 0 (fun o _ ho => e1 o (by omega)), smo_len n40 _ (fun x hx => by
        obtain ⟨t', o, v, q1, q2, q3, q4, q5, q6, _⟩ := hLk.2.2.2.2.1 x (List.mem_filter.mp hx).1
        exact ⟨o, q6, q5⟩), ← List.countP_eq_length_filter]
      unfold v_L
      rw [List.countP_map, List.range_eq_range']
      rfl
    have v10 : y_ofL j S.2 0 nl 0 = nI (k_smo (fun o => (U.2.1 (k_sp U own o + 1)).countP (fun y => decide (Z.2.2 y = dl U own j))) 0 n) := by
      rw [show (0 : Int32) = nI 0 from rfl, ofL_ok, Nat.zero_add, lks]
    -- waits
    have wt : (U.1 (dl U own j) = none ∧ y_ofW j S.2 0 nw (-9) = -9) ∨ ∃ y, U.1 (dl U own j) = some y ∧ Z.1 y = 4 ∧ y_ofW j S.2 0 nw (-9) = P.1 61 y := by
      by_cases s2 : S.2 47 j = 2
      · obtain ⟨x, x1, x2⟩ := hLk.2.2.2.2.2.2.2.1 j j1 j2 s2
        obtain ⟨u, o, q1, q2, q3, q4, q5, q6, _⟩ := hLk.2.2.2.2.2.1 x x1
        have xo : x ∈ v_WO (nI o) (v_W nw S.2) := by
          unfold v_WO
          rw [List.mem_filter]
          exact ⟨x1, by rw [beq_iff_eq]; exact q5⟩
        have xm : WN x ∈ (k_ql U own o).map (WV Z P) := by rw [(kLk.2.1 o q6).2.1]; exact List.mem_map_of_mem xo
        obtain ⟨y, y1, y2⟩ := List.mem_map.mp xm
        obtain ⟨u', z1, z2, z3, z4, z5, _⟩ := kLk.2.2.2.1 o q6 y y1
        have y3 : P.1 40 (Z.2.2 y) = x.1 := congrArg (fun z : v_WT => z.1) y2
        rw [z4, num u' z1 z2, x2, i_eq (by omega) (by omega)] at y3
        subst y3
        have y4 : P.1 61 y = x.2.1 := congrArg (fun z : v_WT => z.2.1) y2
        refine Or.inr ⟨y, z5, E.1.llo (E.1.spt (spt o q6)).2.1 y1, ?_⟩
        rw [y4]
        refine ofW_b nw 0 _ (fun k _ hk e9 => ?_) ?_
        · have km := mem_vW (A := S.2) (show k < nw by omega)
          have nd := hLk.2.2.2.2.2.2.1
          have : v_w S.2 k = x := by
            obtain ⟨p1, p1l, p1e⟩ := List.getElem_of_mem km
            obtain ⟨p2, p2l, p2e⟩ := List.getElem_of_mem x1
            have g1 : ((v_W nw S.2).map (fun x => x.1))[p1]? = some (nI u') := by rw [List.getElem?_map, List.getElem?_eq_getElem p1l, p1e]; exact congrArg some e9
            have g2 : ((v_W nw S.2).map (fun x => x.1))[p2]? = some (nI u') := by rw [List.getElem?_map, List.getElem?_eq_getElem p2l, p2e]; exact congrArg some x2
            have hp1 : p1 < ((v_W nw S.2).map (fun x => x.1)).length := by rw [List.length_map]; exact p1l
            have : p1 = p2 := (List.getElem?_inj hp1 nd).mp (g1.trans g2.symm)
            subst this
            rw [← p1e, ← p2e]
          rw [← this]
          rfl
        · obtain ⟨k, hk, ek⟩ := List.mem_map.mp x1
          refine ⟨k, by omega, by have := List.mem_range.mp hk; omega, ?_⟩
          rw [← ek] at x2
          exact x2
      · refine Or.inl ⟨(kLk.2.2.2.2.2 j j1 j2).1 s2, ofW_n nw 0 _ (fun k _ hk e9 => ?_)⟩
        obtain ⟨u, o, q1, q2, q3, q4, _⟩ := hLk.2.2.2.2.2.1 _ (mem_vW (A := S.2) (show k < nw by omega))
        have : nI u = nI j := q1.symm.trans e9
        rw [i_eq (by omega) (by omega)] at this
        subst this
        exact s2 q4
    rw [hi, et, i_cl (by omega)] at q
    rw [e, k_rfs]
    have ee : (w < 0 ∨ 11 < w) → y_isIn w 0 11 = false := fun c => in_f (fun z => by
      rcases c with c | c
      · exact absurd (Int32.lt_of_lt_of_le c z.1) Int32.lt_irrefl
      · exact absurd (Int32.lt_of_lt_of_le c z.2) Int32.lt_irrefl)
    have d9 : w = 9 → Ψ (some (.int (y_ofW j S.2 0 nw (-9)))) (K_H Z P U (B, r)) := fun c => by subst c; exact q
    have d10 : w = 10 → Ψ (some (.int (y_ofL j S.2 0 nl 0))) (K_H Z P U (B, r)) := fun c => by subst c; exact q
    have d0 : w = 0 → Ψ (some (.int (S.2 47 j))) (K_H Z P U (B, r)) := fun c => by subst c; exact q
    have d1 : w = 1 → Ψ (some (.int (S.2 48 j))) (K_H Z P U (B, r)) := fun c => by subst c; exact q
    have d2 : w = 2 → Ψ (some (.int (S.2 51 j))) (K_H Z P U (B, r)) := fun c => by subst c; exact q
    have d3 : w = 3 → Ψ (some (.int (S.2 49 j))) (K_H Z P U (B, r)) := fun c => by subst c; exact q
    have d4 : w = 4 → Ψ (some (.int (S.2 50 j))) (K_H Z P U (B, r)) := fun c => by subst c; exact q
    have d5 : w = 5 → Ψ (some (.int (S.2 52 j))) (K_H Z P U (B, r)) := fun c => by subst c; exact q
    have d6 : w = 6 → Ψ (some (.int (S.2 55 j))) (K_H Z P U (B, r)) := fun c => by subst c; exact q
    have d7 : w = 7 → Ψ (some (.int (S.2 56 j))) (K_H Z P U (B, r)) := fun c => by subst c; exact q
    have d8 : w = 8 → Ψ (some (.int (S.2 57 j))) (K_H Z P U (B, r)) := fun c => by subst c; exact q
    have d11 : w = 11 → Ψ (some (.int (S.2 58 j))) (K_H Z P U (B, r)) := fun c => by subst c; exact q
    rcases wt with ⟨w1, w2⟩ | ⟨y, w1, w3, w2⟩
    · rw [w2] at d9
      simp (decide := true) (disch := first | assumption | omega) only [↓u100_0, ↓u100_12, ↓u100_76, ↓u100_81, ↓u100_86, ↓u100_91, ↓u100_96, ↓u100_101, ↓u100_106, ↓u100_111, ↓u100_116, ↓u100_121, ↓u100_133, ↓u100_140, ↓u100_141, ↓u100_147, ↓u100_152, ↓x_nil, ↓x_om, ↓x_aload_0r, ↓x_aload_0n, ↓x_aload_0q, ↓x_iload_1, ↓x_invokevirtual, mt_12_121, x_ps0, x_ps1, x_l40, x_l41, x_l42, x_l43, x_l44, ↓x_cv1, ↓x_astore_3r, ↓x_astore_3n, ↓x_astore_3q, x_cl_i, x_cl_r, x_cl_n, x_cl_q, x_cl_0, x_cl_l, ↓x_aload_3r, ↓x_aload_3n, ↓x_aload_3q, ↓x_ifnonnull_n, ↓x_ifnonnull_r, ↓x_ifnonnull_q, ↓x_iconst_m1, ↓x_ireturn, rt100, ↓x_iload_2, ↓x_tsw, ↓x_sw0, ↓x_swc, x_ti0, x_ti1, x_ti2, x_ti3, x_ti4, x_ti5, x_ti6, x_ti7, x_ti8, x_ti9, x_ti10, x_ti11, x_tl0, x_tg11, ↓x_getfield, ft_12_125, ft_12_194, ft_12_130, ft_12_197, ft_12_200, ft_12_158, ft_12_210, ft_12_224, ft_12_227, ft_12_230, ↓x_bipush_m9, ↓x_goto, ft_12_234, mt_12_239, ft_12_167, Int.reduceAdd, Nat.reduceAdd, true_and, and_true, true_or, or_true, false_or, or_false, reduceCtorEq, false_and, and_false, and_self, or_self, false_implies, true_implies, not_true_eq_false, not_false_eq_true, implies_true, Option.some.injEq, p0, p1, p2, p3, p4, p5, p6, p7, p8, p11, w1, k_rfn, ki12, kg2, kv2_3, kv2_4, kv2_5, kv2_1, kv2_2, kv2_6, kv2_7, kv2_8, kv2_9, kv2_13, k_ws, k_w2, k_rfs, k_rfn, kg3, kv3_1, kv2_10, up_s, up_n]
      refine ⟨fun c => b_q q (by rw [ee c, if_neg (fun z => by cases z.2)]), d0, d1, d2, d3, d4, d5, d6, d7, d8, d9, fun c => ?_, d11⟩
      refine h_locksOfH hg hA E.1 tO hs1 kLk.1 (fun o ho => ?_) ?_
      · have h3 := hl_len kLk ho
        have h4 := n2 o
        unfold k_hl at h3
        omega
      rw [← v10]
      simp (decide := true) (disch := first | assumption | omega) only [↓u100_0, ↓u100_12, ↓u100_76, ↓u100_81, ↓u100_86, ↓u100_91, ↓u100_96, ↓u100_101, ↓u100_106, ↓u100_111, ↓u100_116, ↓u100_121, ↓u100_133, ↓u100_140, ↓u100_141, ↓u100_147, ↓u100_152, ↓x_nil, ↓x_om, ↓x_aload_0r, ↓x_aload_0n, ↓x_aload_0q, ↓x_iload_1, ↓x_invokevirtual, mt_12_121, x_ps0, x_ps1, x_l40, x_l41, x_l42, x_l43, x_l44, ↓x_cv1, ↓x_astore_3r, ↓x_astore_3n, ↓x_astore_3q, x_cl_i, x_cl_r, x_cl_n, x_cl_q, x_cl_0, x_cl_l, ↓x_aload_3r, ↓x_aload_3n, ↓x_aload_3q, ↓x_ifnonnull_n, ↓x_ifnonnull_r, ↓x_ifnonnull_q, ↓x_iconst_m1, ↓x_ireturn, rt100, ↓x_iload_2, ↓x_tsw, ↓x_sw0, ↓x_swc, x_ti0, x_ti1, x_ti2, x_ti3, x_ti4, x_ti5, x_ti6, x_ti7, x_ti8, x_ti9, x_ti10, x_ti11, x_tl0, x_tg11, ↓x_getfield, ft_12_125, ft_12_194, ft_12_130, ft_12_197, ft_12_200, ft_12_158, ft_12_210, ft_12_224, ft_12_227, ft_12_230, ↓x_bipush_m9, ↓x_goto, ft_12_234, mt_12_239, ft_12_167, Int.reduceAdd, Nat.reduceAdd, true_and, and_true, true_or, or_true, false_or, or_false, reduceCtorEq, false_and, and_false, and_self, or_self, false_implies, true_implies, not_true_eq_false, not_false_eq_true, implies_true, Option.some.injEq, ki12, kg2, kv2_3, kv2_4, kv2_5, kv2_1, kv2_2, kv2_6, kv2_7, kv2_8, kv2_9, kv2_13, k_ws, k_w2, k_rfs, k_rfn, kg3, kv3_1, kv2_10, up_s, up_n]
      exact d10 c
    · rw [w2] at d9
      simp (decide := true) (disch := first | assumption | omega) only [↓u100_0, ↓u100_12, ↓u100_76, ↓u100_81, ↓u100_86, ↓u100_91, ↓u100_96, ↓u100_101, ↓u100_106, ↓u100_111, ↓u100_116, ↓u100_121, ↓u100_133, ↓u100_140, ↓u100_141, ↓u100_147, ↓u100_152, ↓x_nil, ↓x_om, ↓x_aload_0r, ↓x_aload_0n, ↓x_aload_0q, ↓x_iload_1, ↓x_invokevirtual, mt_12_121, x_ps0, x_ps1, x_l40, x_l41, x_l42, x_l43, x_l44, ↓x_cv1, ↓x_astore_3r, ↓x_astore_3n, ↓x_astore_3q, x_cl_i, x_cl_r, x_cl_n, x_cl_q, x_cl_0, x_cl_l, ↓x_aload_3r, ↓x_aload_3n, ↓x_aload_3q, ↓x_ifnonnull_n, ↓x_ifnonnull_r, ↓x_ifnonnull_q, ↓x_iconst_m1, ↓x_ireturn, rt100, ↓x_iload_2, ↓x_tsw, ↓x_sw0, ↓x_swc, x_ti0, x_ti1, x_ti2, x_ti3, x_ti4, x_ti5, x_ti6, x_ti7, x_ti8, x_ti9, x_ti10, x_ti11, x_tl0, x_tg11, ↓x_getfield, ft_12_125, ft_12_194, ft_12_130, ft_12_197, ft_12_200, ft_12_158, ft_12_210, ft_12_224, ft_12_227, ft_12_230, ↓x_bipush_m9, ↓x_goto, ft_12_234, mt_12_239, ft_12_167, Int.reduceAdd, Nat.reduceAdd, true_and, and_true, true_or, or_true, false_or, or_false, reduceCtorEq, false_and, and_false, and_self, or_self, false_implies, true_implies, not_true_eq_false, not_false_eq_true, implies_true, Option.some.injEq, p0, p1, p2, p3, p4, p5, p6, p7, p8, p11, w1, k_rfs, ki12, kg2, kv2_3, kv2_4, kv2_5, kv2_1, kv2_2, kv2_6, kv2_7, kv2_8, kv2_9, kv2_13, k_ws, k_w2, k_rfs, k_rfn, kg3, kv3_1, kv2_10, up_s, up_n]
      refine ⟨fun c => b_q q (by rw [ee c, if_neg (fun z => by cases z.2)]), d0, d1, d2, d3, d4, d5, d6, d7, d8, d9, fun c => ?_, d11⟩
      refine h_locksOfH hg hA E.1 tO hs1 kLk.1 (fun o ho => ?_) ?_
      · have h3 := hl_len kLk ho
        have h4 := n2 o
        unfold k_hl at h3
        omega
      rw [← v10]
      simp (decide := true) (disch := first | assumption | omega) only [↓u100_0, ↓u100_12, ↓u100_76, ↓u100_81, ↓u100_86, ↓u100_91, ↓u100_96, ↓u100_101, ↓u100_106, ↓u100_111, ↓u100_116, ↓u100_121, ↓u100_133, ↓u100_140, ↓u100_141, ↓u100_147, ↓u100_152, ↓x_nil, ↓x_om, ↓x_aload_0r, ↓x_aload_0n, ↓x_aload_0q, ↓x_iload_1, ↓x_invokevirtual, mt_12_121, x_ps0, x_ps1, x_l40, x_l41, x_l42, x_l43, x_l44, ↓x_cv1, ↓x_astore_3r, ↓x_astore_3n, ↓x_astore_3q, x_cl_i, x_cl_r, x_cl_n, x_cl_q, x_cl_0, x_cl_l, ↓x_aload_3r, ↓x_aload_3n, ↓x_aload_3q, ↓x_ifnonnull_n, ↓x_ifnonnull_r, ↓x_ifnonnull_q, ↓x_iconst_m1, ↓x_ireturn, rt100, ↓x_iload_2, ↓x_tsw, ↓x_sw0, ↓x_swc, x_ti0, x_ti1, x_ti2, x_ti3, x_ti4, x_ti5, x_ti6, x_ti7, x_ti8, x_ti9, x_ti10, x_ti11, x_tl0, x_tg11, ↓x_getfield, ft_12_125, ft_12_194, ft_12_130, ft_12_197, ft_12_200, ft_12_158, ft_12_210, ft_12_224, ft_12_227, ft_12_230, ↓x_bipush_m9, ↓x_goto, ft_12_234, mt_12_239, ft_12_167, Int.reduceAdd, Nat.reduceAdd, true_and, and_true, true_or, or_true, false_or, or_false, reduceCtorEq, false_and, and_false, and_self, or_self, false_implies, true_implies, not_true_eq_false, not_false_eq_true, implies_true, Option.some.injEq, ki12, kg2, kv2_3, kv2_4, kv2_5, kv2_1, kv2_2, kv2_6, kv2_7, kv2_8, kv2_9, kv2_13, k_ws, k_w2, k_rfs, k_rfn, kg3, kv3_1, kv2_10, up_s, up_n]
      exact d10 c
end UW
