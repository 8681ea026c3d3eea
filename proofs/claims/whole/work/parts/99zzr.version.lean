/-! version -/
section UU
variable {g : e_G} {own : Nat} {r0 : Nat × Nat} {P : k_P}
theorem verR_ok {o : Nat} {e : Int32} {f : Nat → Int32} : ∀ (m k i : Nat), (y_verR o e f k m i = i ∨ (k ≤ y_verR o e f k m i ∧ y_verR o e f k m i < k + m ∧ f (401 * o + y_verR o e f k m i) ≤ e)) ∧ ∀ k', k ≤ k' → k' < k + m → y_verR o e f k m i < k' → ¬ f (401 * o + k') ≤ e
  | 0, k, i => ⟨Or.inl rfl, fun k' h1 h2 => by omega⟩
  | m + 1, k, i => by
    obtain ⟨h1, h2⟩ := verR_ok (o := o) (e := e) (f := f) m (k + 1) (if f (401 * o + k) ≤ e then k else i)
    rw [y_verR]
    generalize y_verR o e f (k + 1) m (if f (401 * o + k) ≤ e then k else i) = R at *
    by_cases c : f (401 * o + k) ≤ e
    · rw [if_pos c] at h1
      refine ⟨Or.inr ?_, fun k' a1 a2 a3 => ?_⟩
      · rcases h1 with h | h
        · exact ⟨by omega, by omega, by rw [h]; exact c⟩
        · exact ⟨by omega, by omega, h.2.2⟩
      · rcases h1 with h | h
        · exact h2 k' (by omega) (by omega) a3
        · exact h2 k' (by omega) (by omega) a3
    · rw [if_neg c] at h1
      refine ⟨?_, fun k' a1 a2 a3 => ?_⟩
      · rcases h1 with h | h
        · exact Or.inl h
        · exact Or.inr ⟨by omega, by omega, h.2.2⟩
      · by_cases ck : k' = k
        · subst ck; exact c
        · exact h2 k' (by omega) (by omega) a3
theorem va_ok {s : Nat} {e : Int32} : ∀ (m : Nat), ((∀ i, i < m → ¬ P.2 (s + 3) i ≤ e) → k_va P s e m = -6) ∧ ∀ i, i < m → P.2 (s + 3) i ≤ e → (∀ i', i < i' → i' < m → ¬ P.2 (s + 3) i' ≤ e) → k_va P s e m = P.2 (s + 4) i
  | 0 => ⟨fun _ => rfl, fun i h => by omega⟩
  | m + 1 => by
    obtain ⟨h1, h2⟩ := va_ok (s := s) (e := e) m
    rw [k_va]
    refine ⟨fun h => ?_, fun i hi hp hn => ?_⟩
    · rw [if_neg (h m (by omega))]
      exact h1 (fun i hi => h i (by omega))
    · by_cases c : i = m
      · subst c; rw [if_pos hp]
      · rw [if_neg (hn m (by omega) (by omega))]
        exact h2 i (by omega) hp (fun i' a b => hn i' a (by omega))
theorem sO_ok {U : k_U} {n : Nat} {o : Int32} (n40 : n ≤ 40) : (k_sO U own n o = none ∧ y_isIn o 0 (nI n - 1) = false) ∨ ∃ j, j < n ∧ o = nI j ∧ k_sO U own n o = some (k_sp U own j) ∧ y_isIn o 0 (nI n - 1) = true := by
  rcases tO_ok (U := U) (s := 0) (n := n) (o := o) n40 with ⟨h1, h2⟩ | ⟨j, j1, j2, h1, h2⟩
  · refine Or.inl ⟨?_, h2⟩
    unfold k_tO at h1
    unfold k_sO
    by_cases cc : 0 ≤ o ∧ o < nI n
    · rw [if_pos cc] at h1; cases h1
    · rw [if_neg cc]
  · exact Or.inr ⟨j, j1, j2, by rw [j2]; exact k_sO_s j1 n40, h2⟩
theorem i_sb {a b : Nat} (h : b ≤ a) (ha : a ≤ 100000) : nI a - nI b = nI (a - b) := by
  have e : nI a = nI (a - b) + nI b := by rw [nI_add]; congr 1; omega
  rw [e, Int32.sub_eq_add_neg, Int32.add_assoc, Int32.add_right_neg, Int32.add_zero]
theorem t_version (hg : e_GK g) {o e : Int32} : TW g own r0 112 234 [.int o, .int e] := by
  refine TWq (fun c Z P U r S hc hV => ?_)
  obtain ⟨N, n, b, l, nl, nw, nr, na, ne, ch, T, hI, hK, hR⟩ := hV
  obtain ⟨E, kLg, ⟨hs1, hS1⟩, ⟨hs5, hS5⟩, kDe, kEn, kAs, kLk, kVe, kMi⟩ := hK
  have tO := E.2.1
  have n40 := hs1.2.2.1
  have obj : S.1 3 = nI n := hI.2.2.2.2.2.1.1
  have hVe := hI.2.2.2.2.1
  have neb : ne ≤ 400 := by
    have := hI.2.2.1.2.1
    have := hI.2.1.1
    omega
  refine ⟨y_version o e S, fun Ψ B q => ?_, fun M h Φ q => c_version hg n40 obj (fun x hx => by
    obtain ⟨v, v1, v2, v3, v4⟩ := hVe x hx
    exact ⟨v, by omega, v1⟩) q⟩
  refine e_call (cd := cd112) hg ok112 (by rw [mL112]; exact Nat.le_of_ble_eq_true rfl) ?_
  rw [mL112]
  simp only [x_ini, x_inr, x_inn, x_inq, x_inl, x_in0, x_rp0, x_rps, Nat.reduceSub]
  simp (decide := true) (disch := first | assumption | omega) only [↓u112_0, ↓u112_14, ↓u112_16, ↓x_nil, ↓x_om, ↓x_aload_0r, ↓x_aload_0n, ↓x_aload_0q, ↓x_iload_1, ↓x_invokevirtual, mt_12_136, x_ps0, x_ps1, x_l40, x_l41, x_l42, x_l43, x_l44, ↓x_cv1, ↓x_astore_3r, ↓x_astore_3n, ↓x_astore_3q, x_cl_i, x_cl_r, x_cl_n, x_cl_q, x_cl_0, x_cl_l, ↓x_aload_3r, ↓x_aload_3n, ↓x_aload_3q, ↓x_ifnull_n, ↓x_ifnull_r, ↓x_ifnull_q, ↓x_iload_2, ↓x_if_ge, ↓x_iconst_m1, ↓x_ireturn, rt112, mt_12_283, Int.reduceAdd, Nat.reduceAdd, true_and, and_true, true_or, or_true, false_or, or_false, reduceCtorEq, false_and, and_false, and_self, or_self, false_implies, true_implies, not_true_eq_false, not_false_eq_true, implies_true, Option.some.injEq, ki12, ki9, up_s, up_n]
  refine h_spotOf hg E.1 tO hs1 kLk.1 ?_
  unfold y_version at q
  rw [obj] at q
  rcases sO_ok (U := U) (o := o) n40 with ⟨h1, h2⟩ | ⟨j, j1, j2, h1, h2⟩
  · rw [h1, k_rfn]
    rw [h2, if_neg (fun z => by cases z.1)] at q
    simp (decide := true) (disch := first | assumption | omega) only [↓u112_0, ↓u112_14, ↓u112_16, ↓x_nil, ↓x_om, ↓x_aload_0r, ↓x_aload_0n, ↓x_aload_0q, ↓x_iload_1, ↓x_invokevirtual, mt_12_136, x_ps0, x_ps1, x_l40, x_l41, x_l42, x_l43, x_l44, ↓x_cv1, ↓x_astore_3r, ↓x_astore_3n, ↓x_astore_3q, x_cl_i, x_cl_r, x_cl_n, x_cl_q, x_cl_0, x_cl_l, ↓x_aload_3r, ↓x_aload_3n, ↓x_aload_3q, ↓x_ifnull_n, ↓x_ifnull_r, ↓x_ifnull_q, ↓x_iload_2, ↓x_if_ge, ↓x_iconst_m1, ↓x_ireturn, rt112, mt_12_283, Int.reduceAdd, Nat.reduceAdd, true_and, and_true, true_or, or_true, false_or, or_false, reduceCtorEq, false_and, and_false, and_self, or_self, false_implies, true_implies, not_true_eq_false, not_false_eq_true, implies_true, Option.some.injEq, ki12, ki9, up_s, up_n]
    exact q
  · have ts := k_sp_t E.1 tO kLk.1 j1
    obtain ⟨s1, s2, s3, s4⟩ := E.1.spt ts
    obtain ⟨v, v1, v2, v3, v4⟩ := hVe j j1
    obtain ⟨w1, w2⟩ := kVe j j1 v v1 (by omega)
    have fin : ¬ e < 0 → k_va P (k_sp U own j) e (min v 16) = (if 16 < S.2 97 j - nI (y_verR j e (S.2 98) 0 (S.2 97 j).toNatClampNeg 0) then -6 else S.2 99 (401 * j + y_verR j e (S.2 98) 0 (S.2 97 j).toNatClampNeg 0)) := fun ce => by
      rw [v1, i_cl (by omega)]
      obtain ⟨r1, r2⟩ := verR_ok (o := j) (e := e) (f := S.2 98) v 0 0
      have r3 : S.2 98 (401 * j + y_verR j e (S.2 98) 0 v 0) ≤ e ∧ y_verR j e (S.2 98) 0 v 0 < v := by
        rcases r1 with h | h
        · rw [h, Nat.add_zero, v4.1]; exact ⟨Int32.not_lt.mp ce, by omega⟩
        · exact ⟨h.2.2, by omega⟩
      generalize y_verR j e (S.2 98) 0 v 0 = R at *
      have i16 : ((16 : Int32) < nI v - nI R) = (16 < v - R) := by rw [i_sb (by omega) (by omega), show (16 : Int32) = nI 16 from rfl, i_lt (by omega) (by omega)]
      obtain ⟨a1, a2⟩ := va_ok (P := P) (s := k_sp U own j) (e := e) (min v 16)
      by_cases c16 : 16 < v - R
      · rw [if_pos (by rw [i16]; exact c16)]
        exact a1 (fun i hi => by rw [(w2 i hi).1, show 401 * j + (v - min v 16) + i = 401 * j + (v - min v 16 + i) by omega]; exact r2 _ (by omega) (by omega) (by omega))
      · rw [if_neg (by rw [i16]; exact c16)]
        have hi : R - (v - min v 16) < min v 16 := by omega
        rw [a2 (R - (v - min v 16)) hi (by rw [(w2 _ hi).1, show 401 * j + (v - min v 16) + (R - (v - min v 16)) = 401 * j + R by omega]; exact r3.1) (fun i' b1 b2 => by rw [(w2 i' b2).1, show 401 * j + (v - min v 16) + i' = 401 * j + (v - min v 16 + i') by omega]; exact r2 _ (by omega) (by omega) (by omega)), (w2 _ hi).2, show 401 * j + (v - min v 16) + (R - (v - min v 16)) = 401 * j + R by omega]
    rw [h1, k_rfs]
    simp (decide := true) (disch := first | assumption | omega) only [↓u112_0, ↓u112_14, ↓u112_16, ↓x_nil, ↓x_om, ↓x_aload_0r, ↓x_aload_0n, ↓x_aload_0q, ↓x_iload_1, ↓x_invokevirtual, mt_12_136, x_ps0, x_ps1, x_l40, x_l41, x_l42, x_l43, x_l44, ↓x_cv1, ↓x_astore_3r, ↓x_astore_3n, ↓x_astore_3q, x_cl_i, x_cl_r, x_cl_n, x_cl_q, x_cl_0, x_cl_l, ↓x_aload_3r, ↓x_aload_3n, ↓x_aload_3q, ↓x_ifnull_n, ↓x_ifnull_r, ↓x_ifnull_q, ↓x_iload_2, ↓x_if_ge, ↓x_iconst_m1, ↓x_ireturn, rt112, mt_12_283, Int.reduceAdd, Nat.reduceAdd, true_and, and_true, true_or, or_true, false_or, or_false, reduceCtorEq, false_and, and_false, and_self, or_self, false_implies, true_implies, not_true_eq_false, not_false_eq_true, implies_true, Option.some.injEq, ki12, ki9, up_s, up_n]
    refine ⟨fun c0 => ?_, fun c0 => b_q q (by rw [if_neg (fun z => z.2 (Int32.not_le.mp c0))])⟩
    have ce : ¬ e < 0 := Int32.not_lt.mpr c0
    rw [h2, if_pos ⟨rfl, ce⟩, j2, i_cl (by omega), ← fin ce] at q
    refine h_versionAt hg (n := min v 16) (by omega) w1 ts s3 s4 ?_
    simp (decide := true) (disch := first | assumption | omega) only [↓u112_0, ↓u112_14, ↓u112_16, ↓x_nil, ↓x_om, ↓x_aload_0r, ↓x_aload_0n, ↓x_aload_0q, ↓x_iload_1, ↓x_invokevirtual, mt_12_136, x_ps0, x_ps1, x_l40, x_l41, x_l42, x_l43, x_l44, ↓x_cv1, ↓x_astore_3r, ↓x_astore_3n, ↓x_astore_3q, x_cl_i, x_cl_r, x_cl_n, x_cl_q, x_cl_0, x_cl_l, ↓x_aload_3r, ↓x_aload_3n, ↓x_aload_3q, ↓x_ifnull_n, ↓x_ifnull_r, ↓x_ifnull_q, ↓x_iload_2, ↓x_if_ge, ↓x_iconst_m1, ↓x_ireturn, rt112, mt_12_283, Int.reduceAdd, Nat.reduceAdd, true_and, and_true, true_or, or_true, false_or, or_false, reduceCtorEq, false_and, and_false, and_self, or_self, false_implies, true_implies, not_true_eq_false, not_false_eq_true, implies_true, Option.some.injEq, ki12, ki9, up_s, up_n]
    exact q
end UU
