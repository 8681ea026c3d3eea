/-! count -/
section UV
variable {g : e_G} {own : Nat} {r0 : Nat × Nat} {A : m_A}
theorem cnR_ok {w x : Int32} (hw : w = 2 ∧ x = 1 ∨ w = 3 ∧ x = 2) : ∀ (m i k : Nat), y_cnR w A i m (nI k) = nI (k + (List.range' i m).countP (fun q => decide (A 47 (A 46 q).toNatClampNeg = x)))
  | 0, i, k => rfl
  | m + 1, i, k => by
    rw [y_cnR, show List.range' i (m + 1) = i :: List.range' (i + 1) m from rfl, List.countP_cons]
    have e : ((w = 2 ∧ A 47 (A 46 i).toNatClampNeg = 1) ∨ (w = 3 ∧ A 47 (A 46 i).toNatClampNeg = 2)) ↔ A 47 (A 46 i).toNatClampNeg = x := by
      rcases hw with ⟨rfl, rfl⟩ | ⟨rfl, rfl⟩
      · constructor
        · rintro (h | h)
          · exact h.2
          · exact absurd h.1 (by decide)
        · exact fun h => Or.inl ⟨rfl, h⟩
      · constructor
        · rintro (h | h)
          · exact absurd h.1 (by decide)
          · exact h.2
        · exact fun h => Or.inr ⟨rfl, h⟩
    by_cases c : A 47 (A 46 i).toNatClampNeg = x
    · rw [if_pos (e.mpr c), i_a1, cnR_ok hw m (i + 1) (k + 1), if_pos (decide_eq_true c)]
      congr 1
      omega
    · rw [if_neg (fun z => c (e.mp z)), Int32.add_zero, cnR_ok hw m (i + 1) k, if_neg (by rw [decide_eq_true_eq]; exact c)]
      rfl
theorem smo_cg {f f' : Nat → Nat} : ∀ (n o : Nat), (∀ i, o ≤ i → i < o + n → f i = f' i) → k_smo f o n = k_smo f' o n
  | 0, _, _ => rfl
  | n + 1, o, h => by rw [k_smo, k_smo, h o (by omega) (by omega), smo_cg n (o + 1) (fun i h1 h2 => h i (by omega) (by omega))]
theorem smo_1 {f : Nat → Nat} {x : Nat} : ∀ (n o : Nat), k_smo (fun i => f i + if i = x then 1 else 0) o n = k_smo f o n + if o ≤ x ∧ x < o + n then 1 else 0
  | 0, o => by rw [k_smo, k_smo, if_neg (by omega)]
  | n + 1, o => by
    rw [k_smo, k_smo, smo_1 n (o + 1)]
    by_cases c : o = x
    · rw [if_pos c, if_neg (by omega), if_pos (by omega)]; omega
    · rw [if_neg c]
      by_cases c2 : o + 1 ≤ x ∧ x < o + 1 + n
      · rw [if_pos c2, if_pos (by omega)]; omega
      · rw [if_neg c2, if_neg (by omega)]; omega
theorem smo_len {n : Nat} (hn : n ≤ 40) : ∀ (L : List v_LT), (∀ x ∈ L, ∃ o, o < n ∧ x.2.1 = nI o) → k_smo (fun o => (v_LO (nI o) L).length) 0 n = L.length
  | [], _ => by
    have : ∀ n o, k_smo (fun o => (v_LO (nI o) []).length) o n = 0 := fun n => by
      induction n with
      | zero => intro o; rfl
      | succ n ih => intro o; rw [k_smo, ih]; rfl
    exact this n 0
  | x :: L, h => by
    obtain ⟨o, o1, o2⟩ := h x (List.mem_cons_self ..)
    have ih := smo_len hn L (fun y hy => h y (List.mem_cons_of_mem _ hy))
    have e : k_smo (fun i => (v_LO (nI i) (x :: L)).length) 0 n = k_smo (fun i => (v_LO (nI i) L).length + if i = o then 1 else 0) 0 n := smo_cg n 0 (fun i _ hi => by
      unfold v_LO
      by_cases c : i = o
      · rw [if_pos c, List.filter_cons_of_pos (by rw [beq_iff_eq, o2, c]), List.length_cons]
      · rw [if_neg c, List.filter_cons_of_neg (by rw [beq_iff_eq, o2, i_eq (by omega) (by omega)]; omega), Nat.add_zero])
    rw [e, smo_1, ih, if_pos (by omega), List.length_cons]
theorem t_count (hg : e_GK g) (hA : e_AK g) {w : Int32} : TW g own r0 117 242 [.int w] := by
  refine TWq (fun c Z P U r S hc hV => ?_)
  obtain ⟨N, n, b, l, nl, nw, nr, na, ne, ch, T, hI, hK, hR⟩ := hV
  have lvm := lvm_of hI
  obtain ⟨n1, n2⟩ := nl_le hI.2.1 hI.2.2.2.1 hI.1.2.2.1.1 hI.2.2.2.2.2.2.1
  obtain ⟨E, kLg, ⟨hs1, hS1⟩, ⟨hs5, hS5⟩, kDe, kEn, kAs, kLk, kVe, kMi⟩ := hK
  have tO := E.2.1
  obtain ⟨a1, a2, a3, a4, a5, a6, a7, a8, a9, a10⟩ := E.1.hse tO
  have n40 := hs1.2.2.1
  have l12 := hI.2.1.2.2.2.2.2.1
  have b400 := hI.2.1.1
  have d7 := hI.2.1.2.2.2.2.2.2.1
  obtain ⟨z1, _⟩ := mi_iff.mp kMi
  have m0 : P.1 161 (own + 1) = S.1 3 := hs1.2.1.trans hI.2.2.2.2.2.1.1.symm
  have m5 : P.1 200 (own + 25) = S.1 62 := z1 (200, 25, 62) (by decide)
  have m6 : P.1 201 (own + 25) = S.1 92 := z1 (201, 25, 92) (by decide)
  have m8 : P.1 202 (own + 25) = S.1 63 := z1 (202, 25, 63) (by decide)
  have m9 : P.1 203 (own + 25) = S.1 64 := z1 (203, 25, 64) (by decide)
  have m10 : P.1 204 (own + 25) = S.1 65 := z1 (204, 25, 65) (by decide)
  have m12 : P.1 81 (own + 17) = S.1 14 := z1 (81, 17, 14) (by decide)
  have m13 : P.1 205 (own + 25) = S.1 66 := z1 (205, 25, 66) (by decide)
  have m15 : P.1 251 own = S.1 1 := z1 (251, 0, 1) (by decide)
  have m16 : P.1 250 own = S.1 0 := z1 (250, 0, 0) (by decide)
  have m17 : P.1 83 (own + 17) = S.1 2 := z1 (83, 17, 2) (by decide)
  have l16 : (U.2.1 (own + 16)).length = ne := by rw [kEn, List.length_map, List.length_range]
  have len15 : (U.2.1 (own + 15)).length = l := by rw [kDe.2.2.2.2.2.1, List.length_map, v_lvl]
  have cnt : ∀ x : Int32, (U.2.1 (own + 15)).countP (fun d => decide (P.1 43 d = x)) = (List.range' 0 l).countP (fun q => decide (S.2 47 (S.2 46 q).toNatClampNeg = x)) := fun x => by
    rw [kDe.2.2.2.2.2.1, List.countP_map]
    unfold v_lv
    rw [List.countP_map, List.range_eq_range']
    refine List.countP_congr (fun q hq => ?_)
    have hq' : q < l := by
      rw [← List.range_eq_range'] at hq
      exact List.mem_range.mp hq
    obtain ⟨t, t1, t2, t3⟩ := d7 q hq'
    have e1 : (S.2 46 q).toNatClampNeg = t := by rw [t1, i_cl (by omega)]
    show decide (P.1 43 (dl U own (S.2 46 q).toNatClampNeg) = x) = true ↔ decide (S.2 47 (S.2 46 q).toNatClampNeg = x) = true
    rw [decide_eq_true_eq, decide_eq_true_eq, e1, (kDe.2.2.1 t t2 t3).2.2.2.1]
  have lks : k_smo (fun o => (U.2.1 (k_sp U own o + 1)).length) 0 n = nl := by
    have e : k_smo (fun o => (U.2.1 (k_sp U own o + 1)).length) 0 n = k_smo (fun o => (v_LO (nI o) (v_L nl S.2)).length) 0 n := smo_cg n 0 (fun i _ hi => hl_len kLk (by omega))
    rw [e, smo_len n40 _ (fun x hx => by
      obtain ⟨t, o, v, q1, q2, q3, q4, q5, q6, _⟩ := hI.2.2.2.1.2.2.2.2.1 x hx
      exact ⟨o, q6, q5⟩), v_Ll]
  refine ⟨y_count w l S, fun Ψ B q => ?_, fun M h Φ q => c_count hg l12 hI.2.1.2.2.2.2.1 (fun i hi => by
    obtain ⟨t, t1, t2, t3⟩ := d7 i hi
    exact ⟨t, by omega, t1⟩) q⟩
  have k2 : y_cnR 2 S.2 0 l 0 = nI ((U.2.1 (own + 15)).countP (fun d => decide (P.1 43 d = 1))) := by rw [show (0 : Int32) = nI 0 from rfl, cnR_ok (Or.inl ⟨rfl, rfl⟩), cnt, Nat.zero_add]
  have k3 : y_cnR 3 S.2 0 l 0 = nI ((U.2.1 (own + 15)).countP (fun d => decide (P.1 43 d = 2))) := by rw [show (0 : Int32) = nI 0 from rfl, cnR_ok (Or.inr ⟨rfl, rfl⟩), cnt, Nat.zero_add]
  unfold y_count at q
  rw [k2, k3] at q
  refine e_call (cd := cd117) hg ok117 (by rw [mL117]; exact Nat.le_of_ble_eq_true rfl) ?_
  rw [mL117]
  simp only [x_ini, x_inr, x_inn, x_inq, x_inl, x_in0, x_rp0, x_rps, Nat.reduceSub]
  simp (decide := true) (disch := first | assumption | omega) only [↓u117_0, ↓u117_88, ↓u117_96, ↓u117_104, ↓u117_110, ↓u117_116, ↓u117_124, ↓u117_132, ↓u117_140, ↓u117_145, ↓u117_153, ↓u117_161, ↓u117_169, ↓u117_177, ↓u117_185, ↓u117_193, ↓u117_198, ↓u117_203, ↓u117_211, ↓x_nil, ↓x_om, ↓x_iload_1, ↓x_tsw, ↓x_sw0, ↓x_swc, x_ti0, x_ti1, x_ti2, x_ti3, x_ti4, x_ti5, x_ti6, x_ti7, x_ti8, x_ti9, x_ti10, x_ti11, x_ti12, x_ti13, x_ti14, x_ti15, x_ti16, x_ti17, x_tl0, x_tg17, ↓x_aload_0r, ↓x_aload_0n, ↓x_aload_0q, ↓x_getfield, ft_12_12, ft_12_86, ↓x_ireturn, rt117, ft_12_31, ↓x_invokevirtual, mt_12_165, x_ps0, x_ps1, x_l40, x_l41, x_l42, x_l43, x_l44, ↓x_cv0, ↓x_iconst_1, mt_12_329, ↓x_cv1, ↓x_iconst_2, ft_12_38, ft_12_58, ft_12_332, ft_12_335, mt_12_338, ft_12_207, ft_12_341, ft_12_344, ft_12_44, mt_12_176, ft_12_275, ft_12_347, ft_12_66, ft_12_62, ft_12_260, ↓x_iconst_m1, Int.reduceAdd, Nat.reduceAdd, true_and, and_true, true_or, or_true, false_or, or_false, reduceCtorEq, false_and, and_false, and_self, or_self, false_implies, true_implies, not_true_eq_false, not_false_eq_true, implies_true, Option.some.injEq, m0, m5, m6, m8, m9, m10, m12, m13, m15, m16, m17, kg12, kv12_0, kg8, kv8_1, kv12_4, kiL30, kiL31, kiL32, ki12, kv12_6, kv12_9, kg10, kv10_0, kv10_1, kv10_2, kv10_3, kv10_4, kv12_7, ki4, kg4, kv4_1, kv10_5, kv12_11, kv12_10, kv4_3, up_s, up_n]
  have e : (w < 0 ∨ 17 < w) → ∀ m : Nat, m ≤ 17 → ¬ w = nI m := fun c m h2 z => by
    subst z
    rw [show (0 : Int32) = nI 0 from by decide, show (17 : Int32) = nI 17 from by decide, i_lt (by omega) (by omega), i_lt (by omega) (by omega)] at c
    omega
  refine ⟨fun c => b_q q ?_, fun c => ?_, fun c => ?_, fun c => ?_, fun c => ?_, fun c => ?_, fun c => ?_, fun c => ?_, fun c => ?_, fun c => ?_, fun c => ?_, fun c => ?_, fun c => ?_, fun c => ?_, fun c => ?_, fun c => ?_, fun c => ?_, fun c => ?_, fun c => ?_⟩
  · have h := fun m hm => e c m hm
    have h0 : ¬ w = 0 := h 0 (by omega)
    have h1 : ¬ w = 1 := h 1 (by omega)
    have h2 : ¬ w = 2 := h 2 (by omega)
    have h3 : ¬ w = 3 := h 3 (by omega)
    have h4 : ¬ w = 4 := h 4 (by omega)
    have h5 : ¬ w = 5 := h 5 (by omega)
    have h6 : ¬ w = 6 := h 6 (by omega)
    have h7 : ¬ w = 7 := h 7 (by omega)
    have h8 : ¬ w = 8 := h 8 (by omega)
    have h9 : ¬ w = 9 := h 9 (by omega)
    have h10 : ¬ w = 10 := h 10 (by omega)
    have h11 : ¬ w = 11 := h 11 (by omega)
    have h12 : ¬ w = 12 := h 12 (by omega)
    have h13 : ¬ w = 13 := h 13 (by omega)
    have h14 : ¬ w = 14 := h 14 (by omega)
    have h15 : ¬ w = 15 := h 15 (by omega)
    have h16 : ¬ w = 16 := h 16 (by omega)
    have h17 : ¬ w = 17 := h 17 (by omega)
    rw [if_neg h0, if_neg h1, if_neg h2, if_neg h3, if_neg h4, if_neg h5, if_neg h6, if_neg h7, if_neg h8, if_neg h9, if_neg h10, if_neg h11, if_neg h12, if_neg h13, if_neg h14, if_neg h15, if_neg h16, if_neg h17]
  all_goals (subst c; simp (decide := true) only [if_true, if_false] at q; try exact q)
  · refine l_size hA (k_tL30 a5) ?_
    rw [kDe.1, ← hI.2.1.2.1]
    simp (decide := true) (disch := first | assumption | omega) only [↓u117_0, ↓u117_88, ↓u117_96, ↓u117_104, ↓u117_110, ↓u117_116, ↓u117_124, ↓u117_132, ↓u117_140, ↓u117_145, ↓u117_153, ↓u117_161, ↓u117_169, ↓u117_177, ↓u117_185, ↓u117_193, ↓u117_198, ↓u117_203, ↓u117_211, ↓x_nil, ↓x_om, ↓x_iload_1, ↓x_tsw, ↓x_sw0, ↓x_swc, x_ti0, x_ti1, x_ti2, x_ti3, x_ti4, x_ti5, x_ti6, x_ti7, x_ti8, x_ti9, x_ti10, x_ti11, x_ti12, x_ti13, x_ti14, x_ti15, x_ti16, x_ti17, x_tl0, x_tg17, ↓x_aload_0r, ↓x_aload_0n, ↓x_aload_0q, ↓x_getfield, ft_12_12, ft_12_86, ↓x_ireturn, rt117, ft_12_31, ↓x_invokevirtual, mt_12_165, x_ps0, x_ps1, x_l40, x_l41, x_l42, x_l43, x_l44, ↓x_cv0, ↓x_iconst_1, mt_12_329, ↓x_cv1, ↓x_iconst_2, ft_12_38, ft_12_58, ft_12_332, ft_12_335, mt_12_338, ft_12_207, ft_12_341, ft_12_344, ft_12_44, mt_12_176, ft_12_275, ft_12_347, ft_12_66, ft_12_62, ft_12_260, ↓x_iconst_m1, Int.reduceAdd, Nat.reduceAdd, true_and, and_true, true_or, or_true, false_or, or_false, reduceCtorEq, false_and, and_false, and_self, or_self, false_implies, true_implies, not_true_eq_false, not_false_eq_true, implies_true, Option.some.injEq, kg12, kv12_0, kg8, kv8_1, kv12_4, kiL30, kiL31, kiL32, ki12, kv12_6, kv12_9, kg10, kv10_0, kv10_1, kv10_2, kv10_3, kv10_4, kv12_7, ki4, kg4, kv4_1, kv10_5, kv12_11, kv12_10, kv4_3, up_s, up_n]
    exact q
  · refine h_inState hg hA E.1 tO (by omega) ?_
    simp (decide := true) (disch := first | assumption | omega) only [↓u117_0, ↓u117_88, ↓u117_96, ↓u117_104, ↓u117_110, ↓u117_116, ↓u117_124, ↓u117_132, ↓u117_140, ↓u117_145, ↓u117_153, ↓u117_161, ↓u117_169, ↓u117_177, ↓u117_185, ↓u117_193, ↓u117_198, ↓u117_203, ↓u117_211, ↓x_nil, ↓x_om, ↓x_iload_1, ↓x_tsw, ↓x_sw0, ↓x_swc, x_ti0, x_ti1, x_ti2, x_ti3, x_ti4, x_ti5, x_ti6, x_ti7, x_ti8, x_ti9, x_ti10, x_ti11, x_ti12, x_ti13, x_ti14, x_ti15, x_ti16, x_ti17, x_tl0, x_tg17, ↓x_aload_0r, ↓x_aload_0n, ↓x_aload_0q, ↓x_getfield, ft_12_12, ft_12_86, ↓x_ireturn, rt117, ft_12_31, ↓x_invokevirtual, mt_12_165, x_ps0, x_ps1, x_l40, x_l41, x_l42, x_l43, x_l44, ↓x_cv0, ↓x_iconst_1, mt_12_329, ↓x_cv1, ↓x_iconst_2, ft_12_38, ft_12_58, ft_12_332, ft_12_335, mt_12_338, ft_12_207, ft_12_341, ft_12_344, ft_12_44, mt_12_176, ft_12_275, ft_12_347, ft_12_66, ft_12_62, ft_12_260, ↓x_iconst_m1, Int.reduceAdd, Nat.reduceAdd, true_and, and_true, true_or, or_true, false_or, or_false, reduceCtorEq, false_and, and_false, and_self, or_self, false_implies, true_implies, not_true_eq_false, not_false_eq_true, implies_true, Option.some.injEq, kg12, kv12_0, kg8, kv8_1, kv12_4, kiL30, kiL31, kiL32, ki12, kv12_6, kv12_9, kg10, kv10_0, kv10_1, kv10_2, kv10_3, kv10_4, kv12_7, ki4, kg4, kv4_1, kv10_5, kv12_11, kv12_10, kv4_3, up_s, up_n]
    exact q
  · refine h_inState hg hA E.1 tO (by omega) ?_
    simp (decide := true) (disch := first | assumption | omega) only [↓u117_0, ↓u117_88, ↓u117_96, ↓u117_104, ↓u117_110, ↓u117_116, ↓u117_124, ↓u117_132, ↓u117_140, ↓u117_145, ↓u117_153, ↓u117_161, ↓u117_169, ↓u117_177, ↓u117_185, ↓u117_193, ↓u117_198, ↓u117_203, ↓u117_211, ↓x_nil, ↓x_om, ↓x_iload_1, ↓x_tsw, ↓x_sw0, ↓x_swc, x_ti0, x_ti1, x_ti2, x_ti3, x_ti4, x_ti5, x_ti6, x_ti7, x_ti8, x_ti9, x_ti10, x_ti11, x_ti12, x_ti13, x_ti14, x_ti15, x_ti16, x_ti17, x_tl0, x_tg17, ↓x_aload_0r, ↓x_aload_0n, ↓x_aload_0q, ↓x_getfield, ft_12_12, ft_12_86, ↓x_ireturn, rt117, ft_12_31, ↓x_invokevirtual, mt_12_165, x_ps0, x_ps1, x_l40, x_l41, x_l42, x_l43, x_l44, ↓x_cv0, ↓x_iconst_1, mt_12_329, ↓x_cv1, ↓x_iconst_2, ft_12_38, ft_12_58, ft_12_332, ft_12_335, mt_12_338, ft_12_207, ft_12_341, ft_12_344, ft_12_44, mt_12_176, ft_12_275, ft_12_347, ft_12_66, ft_12_62, ft_12_260, ↓x_iconst_m1, Int.reduceAdd, Nat.reduceAdd, true_and, and_true, true_or, or_true, false_or, or_false, reduceCtorEq, false_and, and_false, and_self, or_self, false_implies, true_implies, not_true_eq_false, not_false_eq_true, implies_true, Option.some.injEq, kg12, kv12_0, kg8, kv8_1, kv12_4, kiL30, kiL31, kiL32, ki12, kv12_6, kv12_9, kg10, kv10_0, kv10_1, kv10_2, kv10_3, kv10_4, kv12_7, ki4, kg4, kv4_1, kv10_5, kv12_11, kv12_10, kv4_3, up_s, up_n]
    exact q
  · refine l_size hA (k_tL30 a7) ?_
    rw [l16, ← hI.2.2.1.1]
    simp (decide := true) (disch := first | assumption | omega) only [↓u117_0, ↓u117_88, ↓u117_96, ↓u117_104, ↓u117_110, ↓u117_116, ↓u117_124, ↓u117_132, ↓u117_140, ↓u117_145, ↓u117_153, ↓u117_161, ↓u117_169, ↓u117_177, ↓u117_185, ↓u117_193, ↓u117_198, ↓u117_203, ↓u117_211, ↓x_nil, ↓x_om, ↓x_iload_1, ↓x_tsw, ↓x_sw0, ↓x_swc, x_ti0, x_ti1, x_ti2, x_ti3, x_ti4, x_ti5, x_ti6, x_ti7, x_ti8, x_ti9, x_ti10, x_ti11, x_ti12, x_ti13, x_ti14, x_ti15, x_ti16, x_ti17, x_tl0, x_tg17, ↓x_aload_0r, ↓x_aload_0n, ↓x_aload_0q, ↓x_getfield, ft_12_12, ft_12_86, ↓x_ireturn, rt117, ft_12_31, ↓x_invokevirtual, mt_12_165, x_ps0, x_ps1, x_l40, x_l41, x_l42, x_l43, x_l44, ↓x_cv0, ↓x_iconst_1, mt_12_329, ↓x_cv1, ↓x_iconst_2, ft_12_38, ft_12_58, ft_12_332, ft_12_335, mt_12_338, ft_12_207, ft_12_341, ft_12_344, ft_12_44, mt_12_176, ft_12_275, ft_12_347, ft_12_66, ft_12_62, ft_12_260, ↓x_iconst_m1, Int.reduceAdd, Nat.reduceAdd, true_and, and_true, true_or, or_true, false_or, or_false, reduceCtorEq, false_and, and_false, and_self, or_self, false_implies, true_implies, not_true_eq_false, not_false_eq_true, implies_true, Option.some.injEq, kg12, kv12_0, kg8, kv8_1, kv12_4, kiL30, kiL31, kiL32, ki12, kv12_6, kv12_9, kg10, kv10_0, kv10_1, kv10_2, kv10_3, kv10_4, kv12_7, ki4, kg4, kv4_1, kv10_5, kv12_11, kv12_10, kv4_3, up_s, up_n]
    exact q
  · refine h_allLocks hg hA E.1 tO hs1 kLk.1 ?_
    rw [lks, ← hI.2.2.2.1.1]
    simp (decide := true) (disch := first | assumption | omega) only [↓u117_0, ↓u117_88, ↓u117_96, ↓u117_104, ↓u117_110, ↓u117_116, ↓u117_124, ↓u117_132, ↓u117_140, ↓u117_145, ↓u117_153, ↓u117_161, ↓u117_169, ↓u117_177, ↓u117_185, ↓u117_193, ↓u117_198, ↓u117_203, ↓u117_211, ↓x_nil, ↓x_om, ↓x_iload_1, ↓x_tsw, ↓x_sw0, ↓x_swc, x_ti0, x_ti1, x_ti2, x_ti3, x_ti4, x_ti5, x_ti6, x_ti7, x_ti8, x_ti9, x_ti10, x_ti11, x_ti12, x_ti13, x_ti14, x_ti15, x_ti16, x_ti17, x_tl0, x_tg17, ↓x_aload_0r, ↓x_aload_0n, ↓x_aload_0q, ↓x_getfield, ft_12_12, ft_12_86, ↓x_ireturn, rt117, ft_12_31, ↓x_invokevirtual, mt_12_165, x_ps0, x_ps1, x_l40, x_l41, x_l42, x_l43, x_l44, ↓x_cv0, ↓x_iconst_1, mt_12_329, ↓x_cv1, ↓x_iconst_2, ft_12_38, ft_12_58, ft_12_332, ft_12_335, mt_12_338, ft_12_207, ft_12_341, ft_12_344, ft_12_44, mt_12_176, ft_12_275, ft_12_347, ft_12_66, ft_12_62, ft_12_260, ↓x_iconst_m1, Int.reduceAdd, Nat.reduceAdd, true_and, and_true, true_or, or_true, false_or, or_false, reduceCtorEq, false_and, and_false, and_self, or_self, false_implies, true_implies, not_true_eq_false, not_false_eq_true, implies_true, Option.some.injEq, kg12, kv12_0, kg8, kv8_1, kv12_4, kiL30, kiL31, kiL32, ki12, kv12_6, kv12_9, kg10, kv10_0, kv10_1, kv10_2, kv10_3, kv10_4, kv12_7, ki4, kg4, kv4_1, kv10_5, kv12_11, kv12_10, kv4_3, up_s, up_n]
    exact q
  · refine h_logSize hg hA E.1 a8 ?_
    rw [show own + 17 + 1 = own + 18 from rfl, kLg.1, ← hI.1.1]
    simp (decide := true) (disch := first | assumption | omega) only [↓u117_0, ↓u117_88, ↓u117_96, ↓u117_104, ↓u117_110, ↓u117_116, ↓u117_124, ↓u117_132, ↓u117_140, ↓u117_145, ↓u117_153, ↓u117_161, ↓u117_169, ↓u117_177, ↓u117_185, ↓u117_193, ↓u117_198, ↓u117_203, ↓u117_211, ↓x_nil, ↓x_om, ↓x_iload_1, ↓x_tsw, ↓x_sw0, ↓x_swc, x_ti0, x_ti1, x_ti2, x_ti3, x_ti4, x_ti5, x_ti6, x_ti7, x_ti8, x_ti9, x_ti10, x_ti11, x_ti12, x_ti13, x_ti14, x_ti15, x_ti16, x_ti17, x_tl0, x_tg17, ↓x_aload_0r, ↓x_aload_0n, ↓x_aload_0q, ↓x_getfield, ft_12_12, ft_12_86, ↓x_ireturn, rt117, ft_12_31, ↓x_invokevirtual, mt_12_165, x_ps0, x_ps1, x_l40, x_l41, x_l42, x_l43, x_l44, ↓x_cv0, ↓x_iconst_1, mt_12_329, ↓x_cv1, ↓x_iconst_2, ft_12_38, ft_12_58, ft_12_332, ft_12_335, mt_12_338, ft_12_207, ft_12_341, ft_12_344, ft_12_44, mt_12_176, ft_12_275, ft_12_347, ft_12_66, ft_12_62, ft_12_260, ↓x_iconst_m1, Int.reduceAdd, Nat.reduceAdd, true_and, and_true, true_or, or_true, false_or, or_false, reduceCtorEq, false_and, and_false, and_self, or_self, false_implies, true_implies, not_true_eq_false, not_false_eq_true, implies_true, Option.some.injEq, kg12, kv12_0, kg8, kv8_1, kv12_4, kiL30, kiL31, kiL32, ki12, kv12_6, kv12_9, kg10, kv10_0, kv10_1, kv10_2, kv10_3, kv10_4, kv12_7, ki4, kg4, kv4_1, kv10_5, kv12_11, kv12_10, kv4_3, up_s, up_n]
    exact q
end UV
