/-! cut: the class drops what is behind -/
section VT
variable {g : e_G} {Ψ : e_Q} {B : Nat → Option e_Cl} {Z : k_Z} {P P1 P2 : k_P} {U U1 U2 : k_U} {r : Nat × Nat} {S : m_S} {N own n b l nl nw nr na ne c T t d ν : Nat} {ch : Nat → List Nat} {C C' : Nat → Bool}
def fp_dc : List Nat := [43, 44, 46, 45, 50]
def dcV (f : Nat) : Int32 := if f = 43 ∨ f = 44 then 4 else if f = 46 ∨ f = 45 then 0 else -9
theorem ubc_r {f a : Nat} : (k_uBC P own d).1 f a = if f = 200 ∧ a = own + 25 then P.1 200 (own + 25) + 1 else if f ∈ fp_dc ∧ a = d then dcV f else P.1 f a := by
  unfold k_uBC
  by_cases c1 : f = 200 ∧ a = own + 25
  · rw [if_pos c1, c1.1, c1.2, k_rs]
  · rw [if_neg c1, k_wno (by by_cases h : f = 200; exact Or.inr (fun z => c1 ⟨h, z⟩); exact Or.inl h)]
    by_cases c2 : f ∈ fp_dc ∧ a = d
    · obtain ⟨h, rfl⟩ := c2
      rw [if_pos ⟨h, rfl⟩]
      unfold fp_dc at h
      simp only [List.mem_cons, List.not_mem_nil, or_false] at h
      rcases h with h | h | h | h | h <;> subst h <;> simp (decide := true) only [k_rn, k_rs, ne_eq, not_false_eq_true] <;> rfl
    · rw [if_neg c2]
      have ne : ∀ f', f' ∈ fp_dc → f ≠ f' ∨ a ≠ d := fun f' hf => by
        by_cases h : f = f'
        · exact Or.inr (fun z => c2 ⟨by rw [h]; exact hf, z⟩)
        · exact Or.inl h
      rw [k_wno (ne _ (by decide)), k_wno (ne _ (by decide)), k_wno (ne _ (by decide)), k_wno (ne _ (by decide)), k_wno (ne _ (by decide))]
/-- those who are cut, in the class -/
def DB (own b : Nat) (C : Nat → Bool) (P : k_P) (U : k_U) (P' : k_P) (U' : k_U) : Prop :=
  (∀ f a, ¬ (f ∈ fp_dc ∧ ∃ t, 1 ≤ t ∧ t ≤ b ∧ C t = true ∧ a = dl U own t) → (f = 200 → a ≠ own + 25) → P'.1 f a = P.1 f a) ∧ (∀ f ∈ fp_dc, ∀ t, 1 ≤ t → t ≤ b → C t = true → P'.1 f (dl U own t) = dcV f) ∧ P'.2 = P.2 ∧ P'.1 200 (own + 25) = P.1 200 (own + 25) + nI (cnB C 1 b) ∧
  (∀ t, 1 ≤ t → t ≤ b → C t = true → U'.1 (dl U own t) = none) ∧ (∀ a, (∀ t, 1 ≤ t → t ≤ b → C t = true → a ≠ dl U own t) → U'.1 a = U.1 a) ∧ U'.2.2 = U.2.2
theorem DB.cg (h : DB own b C P U P1 U1) (hC : ∀ t, 1 ≤ t → t ≤ b → C' t = C t) : DB own b C' P U P1 U1 := by
  obtain ⟨h1, h2, h3, h4, h5, h6, h7⟩ := h
  refine ⟨fun f a z1 z2 => h1 f a (fun ⟨y1, t, y2, y3, y4, y5⟩ => z1 ⟨y1, t, y2, y3, by rw [hC t y2 y3]; exact y4, y5⟩) z2, fun f hf t t1 t2 t3 => h2 f hf t t1 t2 (by rw [← hC t t1 t2]; exact t3), h3, ?_, fun t t1 t2 t3 => h5 t t1 t2 (by rw [← hC t t1 t2]; exact t3), fun a z => h6 a (fun t t1 t2 t3 => z t t1 t2 (by rw [hC t t1 t2]; exact t3)), h7⟩
  rw [h4, cnB_cg (C' := C') b 1 (fun u u1 u2 => (hC u u1 (by omega)).symm)]
theorem DB.step (h : DB own b C P U P1 U1) (h1 : 1 ≤ t) (h2 : t ≤ b) (hC : C t = false) : DB own b (fun u => C u || decide (u = t)) P U (k_uBC P1 own (dl U own t)) (k_ww U1 (dl U own t) none) := by
  obtain ⟨q1, q2, q3, q4, q5, q6, q7⟩ := h
  refine ⟨fun f a z1 z2 => ?_, fun f hf u u1 u2 u3 => ?_, q3, ?_, fun u u1 u2 u3 => ?_, fun a z => ?_, q7⟩
  · rw [ubc_r, if_neg (fun y => z2 y.1 y.2), if_neg (fun y => z1 ⟨y.1, t, h1, h2, by dsimp only; rw [decide_eq_true rfl, Bool.or_true], y.2⟩)]
    exact q1 f a (fun ⟨y1, u, y2, y3, y4, y5⟩ => z1 ⟨y1, u, y2, y3, by dsimp only; rw [y4, Bool.true_or], y5⟩) z2
  · have nT : ¬ (f = 200 ∧ dl U own u = own + 25) := fun y => by rw [y.1] at hf; exact absurd hf (by decide)
    rw [ubc_r, if_neg nT]
    by_cases e : dl U own u = dl U own t
    · rw [if_pos ⟨hf, e⟩]
    · rw [if_neg (fun y => e y.2)]
      refine q2 f hf u u1 u2 ?_
      rcases Bool.or_eq_true _ _ |>.mp u3 with w | w
      · exact w
      · rw [decide_eq_true_eq] at w; exact absurd (by rw [w]) e
  · rw [ubc_r, if_pos ⟨rfl, rfl⟩, q4, cnB_up b 1 hC h1 (by omega), Int32.add_assoc, i_a1]
  · by_cases e : dl U own u = dl U own t
    · rw [e]; exact k_ws
    · rw [k_wn e]
      refine q5 u u1 u2 ?_
      rcases Bool.or_eq_true _ _ |>.mp u3 with w | w
      · exact w
      · rw [decide_eq_true_eq] at w; exact absurd (by rw [w]) e
  · rw [k_wn (z t h1 h2 (by dsimp only; rw [decide_eq_true rfl, Bool.or_true]))]
    exact q6 a (fun u u1 u2 u3 => z u u1 u2 (by dsimp only; rw [u3, Bool.true_or]))
theorem DB.rf : DB own b (fun _ => false) P U P U := by
  refine ⟨fun _ _ _ _ => rfl, (fun f _ t _ _ h => by cases h), rfl, ?_, (fun t _ _ h => by cases h), fun _ _ => rfl, rfl⟩
  have : ∀ m t, cnB (fun _ => false) t m = 0 := fun m => by
    induction m with
    | zero => intro _; rfl
    | succ m ih => intro t; rw [cnB, ih]; rfl
  rw [this]
  exact (Int32.add_zero _).symm
/-- the ints and lists when all behind is dropped -/
def DD (own b l nr ν : Nat) (S : m_S) (P : k_P) (U : k_U) (P' : k_P) (U' : k_U) : Prop := ∃ P2 U2, DB own b (Cb S ν) P U P2 U2 ∧ P' = k_fgt (k_fAll P2 (own + 17) ν) (own + 19) ∧ U'.1 = U2.1 ∧ U'.2.2 = U.2.2 ∧ (∀ a, a ≠ own + 15 → a ≠ own + 16 → a ≠ own + 18 → U'.2.1 a = U.2.1 a) ∧ U'.2.1 (own + 15) = [] ∧ U'.2.1 (own + 16) = (U.2.1 (own + 16)).take (y_cw (S.2 17) 4 0 ν) ∧ U'.2.1 (own + 18) = (U.2.1 (own + 18)).take ν
theorem s_drop (hg : e_GK g) (hA : e_AK g) (hI : I_all n b l nl nw nr na ne ch 0 c T S) (hK : K_all N own n b l nl nw nr ne ch 0 Z P U r S) (hν : ν ≤ nr) (q : ∀ P' U', DD own b l nr ν S P U P' U' → k_E N own Z U' r → Ψ none (K_H Z P' U' (B, r))) : e_Sc g 149 [.ref own, .int (nI ν)] (K_H Z P U (B, r)) Ψ := by
  obtain ⟨E, kLg, _, _, kDe, kEn, kAs, kLk, kVe, kMi⟩ := hK
  have tO : Z.1 own = 13 := E.2.1
  obtain ⟨a1, a2, a3, a4, a5, a6, a7, a8, a9, a10⟩ := E.1.hse tO
  have hD := hI.2.1
  have hE := hI.2.2.1
  have b400 := hD.1
  have l12 := hD.2.2.2.2.2.1
  have nr11 : nr ≤ 1100 := by
    obtain ⟨p1, p2, p3, _⟩ := hI.2.2.2.2.2.2.1
    omega
  have l18 : (U.2.1 (own + 18)).length = nr := kLg.1
  have e15 : U.2.1 (own + 15) = (v_lv l S.2).map (dl U own) := kDe.2.2.2.2.2.1
  have len15 : (U.2.1 (own + 15)).length = l := by rw [e15, List.length_map, v_lvl]
  have lvm := lvm_of hI
  have lvp := hD.2.2.2.2.2.2.2.1
  have a8' : Z.1 (own + 17) = 5 := a8
  have a9' : Z.1 (own + 19) = 7 := a9
  have len16 : (U.2.1 (own + 16)).length = ne := by rw [kEn, List.length_map, List.length_range]
  have t18 : Z.1 (own + 18) = 32 := E.1.log a8
  have neb := hE.2.1
  -- the rows
  have loop2 : ∀ k j P1 U1 w3, j = ν + k → j ≤ nr → DB own b (Cb S j) P U P1 U1 → k_E N own Z U1 r → (∀ a, a ≠ own + 15 → a ≠ own + 16 → a ≠ own + 18 → U1.2.1 a = U.2.1 a) → U1.2.1 (own + 15) = [] → U1.2.1 (own + 16) = (U.2.1 (own + 16)).take (y_cw (S.2 17) 4 0 j) → U1.2.1 (own + 18) = (U.2.1 (own + 18)).take j →
      e_Sm g 149 12 cd149 Ψ 52 [some (.ref own), some (.int (nI ν)), some (.int (nI j - 1)), w3] [] (K_H Z P1 U1 (B, r)) := by
    intro k
    induction k with
    | zero =>
      intro j P1 U1 w3 hj hjn hDB E1 u1 u2 u3 u4
      have ej : j = ν := by omega
      subst ej
      have lt : nI j - 1 < nI j := by
        by_cases c : j = 0
        · subst c; decide
        · rw [i_s1 (by omega)]; exact nI_lt (by omega) (by omega)
      have ll : (U1.2.1 (own + 17 + 1)).length = j := by rw [show own + 17 + 1 = own + 18 from rfl, u4, List.length_take]; omega
      rw [u149_52]
      simp (decide := true) (disch := first | assumption | omega) only [↓u149_0, ↓u149_35, ↓u149_111, ↓u149_124, ↓x_nil, ↓x_om, ↓x_aload_0r, ↓x_aload_0n, ↓x_aload_0q, ↓x_getfield, ft_12_35, ↓x_invokevirtual, mt_12_165, x_ps0, x_ps1, x_l40, x_l41, x_l42, x_l43, x_l44, ↓x_cv0, ↓x_iconst_1, ↓x_isub, ↓x_istore_2, x_cl_i, x_cl_r, x_cl_n, x_cl_q, x_cl_0, x_cl_l, ↓x_iload_2, ↓x_if_lt, mt_12_246, ↓x_cv1, ↓x_checkcast, ↓x_ckr, ↓x_ckn, ct_12_126, mt_12_524, ↓x_iinc_2_m1, ↓x_goto, mt_12_527, ft_12_44, mt_12_176, ↓x_iload_1, ↓x_icmp_lt, mt_12_278, ↓x_astore_3r, ↓x_astore_3n, ↓x_astore_3q, ↓x_aload_3r, ↓x_aload_3n, ↓x_aload_3q, ↓x_ifnull_n, ↓x_ifnull_r, ↓x_ifnull_q, ft_12_301, ↓x_iconst_4, ↓x_icmp_ne, ft_12_38, mt_12_79, ↓x_if_ne, mt_12_391, mt_12_530, mt_12_266, ft_12_51, mt_12_533, ↓x_return, Int.reduceAdd, Nat.reduceAdd, true_and, and_true, true_or, or_true, false_or, or_false, reduceCtorEq, false_and, and_false, and_self, or_self, false_implies, true_implies, not_true_eq_false, not_false_eq_true, implies_true, Option.some.injEq, kg12, kv12_5, kiL30, kiL31, kiL32, kg2, kg3, kg7, ki12, kv12_7, ki4, kv7_0, kv12_6, kv12_8, ki6, up_s, up_n]
      refine ⟨fun _ => ?_, fun c => absurd lt c⟩
      refine h_forceAll hg hA E1.1 a8' ll ?_
      simp (decide := true) (disch := first | assumption | omega) only [↓u149_0, ↓u149_35, ↓u149_111, ↓u149_124, ↓x_nil, ↓x_om, ↓x_aload_0r, ↓x_aload_0n, ↓x_aload_0q, ↓x_getfield, ft_12_35, ↓x_invokevirtual, mt_12_165, x_ps0, x_ps1, x_l40, x_l41, x_l42, x_l43, x_l44, ↓x_cv0, ↓x_iconst_1, ↓x_isub, ↓x_istore_2, x_cl_i, x_cl_r, x_cl_n, x_cl_q, x_cl_0, x_cl_l, ↓x_iload_2, ↓x_if_lt, mt_12_246, ↓x_cv1, ↓x_checkcast, ↓x_ckr, ↓x_ckn, ct_12_126, mt_12_524, ↓x_iinc_2_m1, ↓x_goto, mt_12_527, ft_12_44, mt_12_176, ↓x_iload_1, ↓x_icmp_lt, mt_12_278, ↓x_astore_3r, ↓x_astore_3n, ↓x_astore_3q, ↓x_aload_3r, ↓x_aload_3n, ↓x_aload_3q, ↓x_ifnull_n, ↓x_ifnull_r, ↓x_ifnull_q, ft_12_301, ↓x_iconst_4, ↓x_icmp_ne, ft_12_38, mt_12_79, ↓x_if_ne, mt_12_391, mt_12_530, mt_12_266, ft_12_51, mt_12_533, ↓x_return, Int.reduceAdd, Nat.reduceAdd, true_and, and_true, true_or, or_true, false_or, or_false, reduceCtorEq, false_and, and_false, and_self, or_self, false_implies, true_implies, not_true_eq_false, not_false_eq_true, implies_true, Option.some.injEq, kg12, kv12_5, kiL30, kiL31, kiL32, kg2, kg3, kg7, ki12, kv12_7, ki4, kv7_0, kv12_6, kv12_8, ki6, up_s, up_n]
      refine h_forget hg a9' ?_
      simp (decide := true) (disch := first | assumption | omega) only [↓u149_0, ↓u149_35, ↓u149_111, ↓u149_124, ↓x_nil, ↓x_om, ↓x_aload_0r, ↓x_aload_0n, ↓x_aload_0q, ↓x_getfield, ft_12_35, ↓x_invokevirtual, mt_12_165, x_ps0, x_ps1, x_l40, x_l41, x_l42, x_l43, x_l44, ↓x_cv0, ↓x_iconst_1, ↓x_isub, ↓x_istore_2, x_cl_i, x_cl_r, x_cl_n, x_cl_q, x_cl_0, x_cl_l, ↓x_iload_2, ↓x_if_lt, mt_12_246, ↓x_cv1, ↓x_checkcast, ↓x_ckr, ↓x_ckn, ct_12_126, mt_12_524, ↓x_iinc_2_m1, ↓x_goto, mt_12_527, ft_12_44, mt_12_176, ↓x_iload_1, ↓x_icmp_lt, mt_12_278, ↓x_astore_3r, ↓x_astore_3n, ↓x_astore_3q, ↓x_aload_3r, ↓x_aload_3n, ↓x_aload_3q, ↓x_ifnull_n, ↓x_ifnull_r, ↓x_ifnull_q, ft_12_301, ↓x_iconst_4, ↓x_icmp_ne, ft_12_38, mt_12_79, ↓x_if_ne, mt_12_391, mt_12_530, mt_12_266, ft_12_51, mt_12_533, ↓x_return, Int.reduceAdd, Nat.reduceAdd, true_and, and_true, true_or, or_true, false_or, or_false, reduceCtorEq, false_and, and_false, and_self, or_self, false_implies, true_implies, not_true_eq_false, not_false_eq_true, implies_true, Option.some.injEq, kg12, kv12_5, kiL30, kiL31, kiL32, kg2, kg3, kg7, ki12, kv12_7, ki4, kv7_0, kv12_6, kv12_8, ki6, up_s, up_n]
      exact q _ U1 ⟨P1, U1, hDB, rfl, rfl, hDB.2.2.2.2.2.2, u1, u2, u3, u4⟩ E1
    | succ k ih =>
      intro j P1 U1 w3 hj hjn hDB E1 u1 u2 u3 u4
      obtain ⟨i, rfl⟩ : ∃ i, j = i + 1 := ⟨j - 1, by omega⟩
      have ei : nI (i + 1) - 1 = nI i := by rw [i_s1 (by omega)]; rfl
      have nlt : ¬ nI i < nI ν := by rw [i_lt (by omega) (by omega)]; omega
      have ll : (U1.2.1 (own + 17 + 1)).length = i + 1 := by rw [show own + 17 + 1 = own + 18 from rfl, u4, List.length_take]; omega
      have hil : i < (U.2.1 (own + 18)).length := by omega
      have hx' : (U.2.1 (own + 18))[i]? = some (U.2.1 (own + 18))[i] := List.getElem?_eq_getElem hil
      generalize (U.2.1 (own + 18))[i] = x at hx'
      have hx1 : (U1.2.1 (own + 17 + 1))[i]? = some x := by
        rw [show own + 17 + 1 = own + 18 from rfl, u4, List.getElem?_take, if_pos (by omega)]; exact hx'
      have tx : Z.1 x = 8 := E.1.lro t18 (List.mem_of_getElem? hx')
      obtain ⟨⟨w1, _⟩, _⟩ := kLg.2.2.1 i x hx'
      have g1 : P1.1 140 x = S.2 17 i := by
        rw [hDB.1 _ _ (fun z => absurd z.1 (by decide)) (fun z => absurd z (by decide))]; exact w1
      have tkE : (U1.2.1 (own + 17 + 1)).eraseIdx i = (U.2.1 (own + 18)).take i := by
        rw [show own + 17 + 1 = own + 18 from rfl, u4]
        rw [List.eraseIdx_eq_take_drop_succ, List.take_take, List.drop_eq_nil_of_le (by rw [List.length_take]; omega), List.append_nil, Nat.min_eq_left (by omega)]
      -- the row goes
      have s111 : ∀ P2 U2, DB own b (Cb S i) P U P2 U2 → k_E N own Z U2 r → (∀ a, a ≠ own + 15 → a ≠ own + 16 → a ≠ own + 18 → U2.2.1 a = U.2.1 a) → U2.2.1 (own + 15) = [] → U2.2.1 (own + 16) = (U.2.1 (own + 16)).take (y_cw (S.2 17) 4 0 i) → U2.2.1 (own + 18) = U1.2.1 (own + 18) → e_Sm g 149 12 cd149 Ψ 111 [some (.ref own), some (.int (nI ν)), some (.int (nI i)), some (.ref x)] [] (K_H Z P2 U2 (B, r)) := by
        intro P2 U2 hDB2 E2 v1 v2 v3 v4
        have v4' : U2.2.1 (own + 17 + 1) = U1.2.1 (own + 17 + 1) := v4
        rw [u149_111]
        simp (decide := true) (disch := first | assumption | omega) only [↓u149_0, ↓u149_35, ↓u149_111, ↓u149_124, ↓x_nil, ↓x_om, ↓x_aload_0r, ↓x_aload_0n, ↓x_aload_0q, ↓x_getfield, ft_12_35, ↓x_invokevirtual, mt_12_165, x_ps0, x_ps1, x_l40, x_l41, x_l42, x_l43, x_l44, ↓x_cv0, ↓x_iconst_1, ↓x_isub, ↓x_istore_2, x_cl_i, x_cl_r, x_cl_n, x_cl_q, x_cl_0, x_cl_l, ↓x_iload_2, ↓x_if_lt, mt_12_246, ↓x_cv1, ↓x_checkcast, ↓x_ckr, ↓x_ckn, ct_12_126, mt_12_524, ↓x_iinc_2_m1, ↓x_goto, mt_12_527, ft_12_44, mt_12_176, ↓x_iload_1, ↓x_icmp_lt, mt_12_278, ↓x_astore_3r, ↓x_astore_3n, ↓x_astore_3q, ↓x_aload_3r, ↓x_aload_3n, ↓x_aload_3q, ↓x_ifnull_n, ↓x_ifnull_r, ↓x_ifnull_q, ft_12_301, ↓x_iconst_4, ↓x_icmp_ne, ft_12_38, mt_12_79, ↓x_if_ne, mt_12_391, mt_12_530, mt_12_266, ft_12_51, mt_12_533, ↓x_return, Int.reduceAdd, Nat.reduceAdd, true_and, and_true, true_or, or_true, false_or, or_false, reduceCtorEq, false_and, and_false, and_self, or_self, false_implies, true_implies, not_true_eq_false, not_false_eq_true, implies_true, Option.some.injEq, kg12, kv12_5, kiL30, kiL31, kiL32, kg2, kg3, kg7, ki12, kv12_7, ki4, kv7_0, kv12_6, kv12_8, ki6, up_s, up_n]
        refine h_removeLast hg hA E2.1 a8' (n := i) (by rw [v4']; exact ll) (by omega) ?_
        simp (decide := true) (disch := first | assumption | omega) only [↓u149_0, ↓u149_35, ↓u149_111, ↓u149_124, ↓x_nil, ↓x_om, ↓x_aload_0r, ↓x_aload_0n, ↓x_aload_0q, ↓x_getfield, ft_12_35, ↓x_invokevirtual, mt_12_165, x_ps0, x_ps1, x_l40, x_l41, x_l42, x_l43, x_l44, ↓x_cv0, ↓x_iconst_1, ↓x_isub, ↓x_istore_2, x_cl_i, x_cl_r, x_cl_n, x_cl_q, x_cl_0, x_cl_l, ↓x_iload_2, ↓x_if_lt, mt_12_246, ↓x_cv1, ↓x_checkcast, ↓x_ckr, ↓x_ckn, ct_12_126, mt_12_524, ↓x_iinc_2_m1, ↓x_goto, mt_12_527, ft_12_44, mt_12_176, ↓x_iload_1, ↓x_icmp_lt, mt_12_278, ↓x_astore_3r, ↓x_astore_3n, ↓x_astore_3q, ↓x_aload_3r, ↓x_aload_3n, ↓x_aload_3q, ↓x_ifnull_n, ↓x_ifnull_r, ↓x_ifnull_q, ft_12_301, ↓x_iconst_4, ↓x_icmp_ne, ft_12_38, mt_12_79, ↓x_if_ne, mt_12_391, mt_12_530, mt_12_266, ft_12_51, mt_12_533, ↓x_return, Int.reduceAdd, Nat.reduceAdd, true_and, and_true, true_or, or_true, false_or, or_false, reduceCtorEq, false_and, and_false, and_self, or_self, false_implies, true_implies, not_true_eq_false, not_false_eq_true, implies_true, Option.some.injEq, kg12, kv12_5, kiL30, kiL31, kiL32, kg2, kg3, kg7, ki12, kv12_7, ki4, kv7_0, kv12_6, kv12_8, ki6, up_s, up_n]
        rw [v4', tkE]
        have es : nI i + -1 = nI i - 1 := by rw [← Int32.sub_eq_add_neg]
        have E3 : k_E N own Z (k_wl U2 (own + 18) ((U.2.1 (own + 18)).take i)) r := E2.zc k_ro.rf (E2.1.wlS (fun y hy => by rw [v4, u4]; exact List.take_subset_take_left _ (by omega) hy)) rfl
        have := ih i P2 (k_wl U2 (own + 18) ((U.2.1 (own + 18)).take i)) (some (.ref x)) (by omega) (by omega) ⟨hDB2.1, hDB2.2.1, hDB2.2.2.1, hDB2.2.2.2.1, hDB2.2.2.2.2.1, hDB2.2.2.2.2.2.1, hDB2.2.2.2.2.2.2⟩ E3 (fun a z1 z2 z3 => by rw [k_ln z3]; exact v1 a z1 z2 z3) (by rw [k_ln (by omega)]; exact v2) (by rw [k_ln (by omega)]; exact v3) k_ls
        simpa only [es] using this
      rw [u149_52, ei]
      simp (decide := true) (disch := first | assumption | omega) only [↓u149_0, ↓u149_35, ↓u149_124, ↓x_nil, ↓x_om, ↓x_aload_0r, ↓x_aload_0n, ↓x_aload_0q, ↓x_getfield, ft_12_35, ↓x_invokevirtual, mt_12_165, x_ps0, x_ps1, x_l40, x_l41, x_l42, x_l43, x_l44, ↓x_cv0, ↓x_iconst_1, ↓x_isub, ↓x_istore_2, x_cl_i, x_cl_r, x_cl_n, x_cl_q, x_cl_0, x_cl_l, ↓x_iload_2, ↓x_if_lt, mt_12_246, ↓x_cv1, ↓x_checkcast, ↓x_ckr, ↓x_ckn, ct_12_126, mt_12_524, ↓x_iinc_2_m1, ↓x_goto, mt_12_527, ft_12_44, mt_12_176, ↓x_iload_1, ↓x_icmp_lt, mt_12_278, ↓x_astore_3r, ↓x_astore_3n, ↓x_astore_3q, ↓x_aload_3r, ↓x_aload_3n, ↓x_aload_3q, ↓x_ifnull_n, ↓x_ifnull_r, ↓x_ifnull_q, ft_12_301, ↓x_iconst_4, ↓x_icmp_ne, ft_12_38, mt_12_79, ↓x_if_ne, mt_12_391, mt_12_530, mt_12_266, ft_12_51, mt_12_533, ↓x_return, Int.reduceAdd, Nat.reduceAdd, true_and, and_true, true_or, or_true, false_or, or_false, reduceCtorEq, false_and, and_false, and_self, or_self, false_implies, true_implies, not_true_eq_false, not_false_eq_true, implies_true, Option.some.injEq, kg12, kv12_5, kiL30, kiL31, kiL32, kg2, kg3, kg7, ki12, kv12_7, ki4, kv7_0, kv12_6, kv12_8, ki6, up_s, up_n]
      refine ⟨fun z => absurd z nlt, fun _ => ?_⟩
      refine h_logAt hg hA E1.1 a8' hx1 (by rw [ll]; omega) ?_
      simp (decide := true) (disch := first | assumption | omega) only [↓u149_0, ↓u149_35, ↓u149_124, ↓x_nil, ↓x_om, ↓x_aload_0r, ↓x_aload_0n, ↓x_aload_0q, ↓x_getfield, ft_12_35, ↓x_invokevirtual, mt_12_165, x_ps0, x_ps1, x_l40, x_l41, x_l42, x_l43, x_l44, ↓x_cv0, ↓x_iconst_1, ↓x_isub, ↓x_istore_2, x_cl_i, x_cl_r, x_cl_n, x_cl_q, x_cl_0, x_cl_l, ↓x_iload_2, ↓x_if_lt, mt_12_246, ↓x_cv1, ↓x_checkcast, ↓x_ckr, ↓x_ckn, ct_12_126, mt_12_524, ↓x_iinc_2_m1, ↓x_goto, mt_12_527, ft_12_44, mt_12_176, ↓x_iload_1, ↓x_icmp_lt, mt_12_278, ↓x_astore_3r, ↓x_astore_3n, ↓x_astore_3q, ↓x_aload_3r, ↓x_aload_3n, ↓x_aload_3q, ↓x_ifnull_n, ↓x_ifnull_r, ↓x_ifnull_q, ft_12_301, ↓x_iconst_4, ↓x_icmp_ne, ft_12_38, mt_12_79, ↓x_if_ne, mt_12_391, mt_12_530, mt_12_266, ft_12_51, mt_12_533, ↓x_return, Int.reduceAdd, Nat.reduceAdd, true_and, and_true, true_or, or_true, false_or, or_false, reduceCtorEq, false_and, and_false, and_self, or_self, false_implies, true_implies, not_true_eq_false, not_false_eq_true, implies_true, Option.some.injEq, g1, kg12, kv12_5, kiL30, kiL31, kiL32, kg2, kg3, kg7, ki12, kv12_7, ki4, kv7_0, kv12_6, kv12_8, ki6, up_s, up_n]
      refine ⟨fun c4 => ?_, fun c4 => ?_⟩
      · obtain ⟨t, t1, t2, t3, t4, t5, t6, t7, t8, t9⟩ := end_row hE (show i < nr by omega) c4
        have cw : y_cw (S.2 17) 4 0 (i + 1) = y_cw (S.2 17) 4 0 i + 1 := by rw [y_cw_s, Nat.zero_add, if_pos c4]
        have len2 : (U1.2.1 (own + 16)).length = y_cw (S.2 17) 4 0 i + 1 := by rw [u3, List.length_take, cw]; omega
        have gd : (U1.2.1 (own + 16))[y_cw (S.2 17) 4 0 i]? = some (dl U own t) := by
          rw [u3, List.getElem?_take, if_pos (by rw [cw]; omega), kEn, List.getElem?_map, List.getElem?_range t6]
          show some (dl U own (S.2 61 (y_cw (S.2 17) 4 0 i + 1)).toNatClampNeg) = some _
          rw [t7, i_cl (by omega)]
        have td : Z.1 (dl U own t) = 3 := (dl_t E kDe.1 t1 t2).1
        refine l_empty hA (k_tL30 a7) (E.1.cap _).1 ?_
        rw [len2, if_neg (by omega)]
        simp (decide := true) (disch := first | assumption | omega) only [↓u149_0, ↓u149_35, ↓u149_124, ↓x_nil, ↓x_om, ↓x_aload_0r, ↓x_aload_0n, ↓x_aload_0q, ↓x_getfield, ft_12_35, ↓x_invokevirtual, mt_12_165, x_ps0, x_ps1, x_l40, x_l41, x_l42, x_l43, x_l44, ↓x_cv0, ↓x_iconst_1, ↓x_isub, ↓x_istore_2, x_cl_i, x_cl_r, x_cl_n, x_cl_q, x_cl_0, x_cl_l, ↓x_iload_2, ↓x_if_lt, mt_12_246, ↓x_cv1, ↓x_checkcast, ↓x_ckr, ↓x_ckn, ct_12_126, mt_12_524, ↓x_iinc_2_m1, ↓x_goto, mt_12_527, ft_12_44, mt_12_176, ↓x_iload_1, ↓x_icmp_lt, mt_12_278, ↓x_astore_3r, ↓x_astore_3n, ↓x_astore_3q, ↓x_aload_3r, ↓x_aload_3n, ↓x_aload_3q, ↓x_ifnull_n, ↓x_ifnull_r, ↓x_ifnull_q, ft_12_301, ↓x_iconst_4, ↓x_icmp_ne, ft_12_38, mt_12_79, ↓x_if_ne, mt_12_391, mt_12_530, mt_12_266, ft_12_51, mt_12_533, ↓x_return, Int.reduceAdd, Nat.reduceAdd, true_and, and_true, true_or, or_true, false_or, or_false, reduceCtorEq, false_and, and_false, and_self, or_self, false_implies, true_implies, not_true_eq_false, not_false_eq_true, implies_true, Option.some.injEq, kg12, kv12_5, kiL30, kiL31, kiL32, kg2, kg3, kg7, ki12, kv12_7, ki4, kv7_0, kv12_6, kv12_8, ki6, up_s, up_n]
        refine l_size hA (k_tL30 a7) ?_
        rw [len2]
        have es : nI (y_cw (S.2 17) 4 0 i + 1) - 1 = nI (y_cw (S.2 17) 4 0 i) := by rw [i_s1 (by omega)]; rfl
        simp (decide := true) (disch := first | assumption | omega) only [↓u149_0, ↓u149_35, ↓u149_124, ↓x_nil, ↓x_om, ↓x_aload_0r, ↓x_aload_0n, ↓x_aload_0q, ↓x_getfield, ft_12_35, ↓x_invokevirtual, mt_12_165, x_ps0, x_ps1, x_l40, x_l41, x_l42, x_l43, x_l44, ↓x_cv0, ↓x_iconst_1, ↓x_isub, ↓x_istore_2, x_cl_i, x_cl_r, x_cl_n, x_cl_q, x_cl_0, x_cl_l, ↓x_iload_2, ↓x_if_lt, mt_12_246, ↓x_cv1, ↓x_checkcast, ↓x_ckr, ↓x_ckn, ct_12_126, mt_12_524, ↓x_iinc_2_m1, ↓x_goto, mt_12_527, ft_12_44, mt_12_176, ↓x_iload_1, ↓x_icmp_lt, mt_12_278, ↓x_astore_3r, ↓x_astore_3n, ↓x_astore_3q, ↓x_aload_3r, ↓x_aload_3n, ↓x_aload_3q, ↓x_ifnull_n, ↓x_ifnull_r, ↓x_ifnull_q, ft_12_301, ↓x_iconst_4, ↓x_icmp_ne, ft_12_38, mt_12_79, ↓x_if_ne, mt_12_391, mt_12_530, mt_12_266, ft_12_51, mt_12_533, ↓x_return, Int.reduceAdd, Nat.reduceAdd, true_and, and_true, true_or, or_true, false_or, or_false, reduceCtorEq, false_and, and_false, and_self, or_self, false_implies, true_implies, not_true_eq_false, not_false_eq_true, implies_true, Option.some.injEq, es, kg12, kv12_5, kiL30, kiL31, kiL32, kg2, kg3, kg7, ki12, kv12_7, ki4, kv7_0, kv12_6, kv12_8, ki6, up_s, up_n]
        refine l_rem hA (k_tL30 a7) (fun y hy => E.1.el30 a7 y (List.mem_of_mem_take (u3 ▸ hy))) (E.1.cap _).1 gd ?_
        have tk16 : (U1.2.1 (own + 16)).eraseIdx (y_cw (S.2 17) 4 0 i) = (U.2.1 (own + 16)).take (y_cw (S.2 17) 4 0 i) := by
          rw [u3, List.eraseIdx_eq_take_drop_succ, List.take_take, List.drop_eq_nil_of_le (by rw [List.length_take, cw]; omega), List.append_nil, Nat.min_eq_left (by rw [cw]; omega)]
        rw [tk16]
        have E2 : k_E N own Z (k_wl U1 (own + 16) ((U.2.1 (own + 16)).take (y_cw (S.2 17) 4 0 i))) r := E1.zc k_ro.rf (E1.1.wlS (fun y hy => by rw [u3]; exact List.take_subset_take_left _ (by rw [cw]; omega) hy)) rfl
        simp (decide := true) (disch := first | assumption | omega) only [↓u149_0, ↓u149_35, ↓u149_124, ↓x_nil, ↓x_om, ↓x_aload_0r, ↓x_aload_0n, ↓x_aload_0q, ↓x_getfield, ft_12_35, ↓x_invokevirtual, mt_12_165, x_ps0, x_ps1, x_l40, x_l41, x_l42, x_l43, x_l44, ↓x_cv0, ↓x_iconst_1, ↓x_isub, ↓x_istore_2, x_cl_i, x_cl_r, x_cl_n, x_cl_q, x_cl_0, x_cl_l, ↓x_iload_2, ↓x_if_lt, mt_12_246, ↓x_cv1, ↓x_checkcast, ↓x_ckr, ↓x_ckn, ct_12_126, mt_12_524, ↓x_iinc_2_m1, ↓x_goto, mt_12_527, ft_12_44, mt_12_176, ↓x_iload_1, ↓x_icmp_lt, mt_12_278, ↓x_astore_3r, ↓x_astore_3n, ↓x_astore_3q, ↓x_aload_3r, ↓x_aload_3n, ↓x_aload_3q, ↓x_ifnull_n, ↓x_ifnull_r, ↓x_ifnull_q, ft_12_301, ↓x_iconst_4, ↓x_icmp_ne, ft_12_38, mt_12_79, ↓x_if_ne, mt_12_391, mt_12_530, mt_12_266, ft_12_51, mt_12_533, ↓x_return, Int.reduceAdd, Nat.reduceAdd, true_and, and_true, true_or, or_true, false_or, or_false, reduceCtorEq, false_and, and_false, and_self, or_self, false_implies, true_implies, not_true_eq_false, not_false_eq_true, implies_true, Option.some.injEq, kg12, kv12_5, kiL30, kiL31, kiL32, kg2, kg3, kg7, ki12, kv12_7, ki4, kv7_0, kv12_6, kv12_8, ki6, up_s, up_n]
        refine h_undoByCut hg E2.1 tO td ?_
        simp (decide := true) (disch := first | assumption | omega) only [↓u149_0, ↓u149_35, ↓u149_124, ↓x_nil, ↓x_om, ↓x_aload_0r, ↓x_aload_0n, ↓x_aload_0q, ↓x_getfield, ft_12_35, ↓x_invokevirtual, mt_12_165, x_ps0, x_ps1, x_l40, x_l41, x_l42, x_l43, x_l44, ↓x_cv0, ↓x_iconst_1, ↓x_isub, ↓x_istore_2, x_cl_i, x_cl_r, x_cl_n, x_cl_q, x_cl_0, x_cl_l, ↓x_iload_2, ↓x_if_lt, mt_12_246, ↓x_cv1, ↓x_checkcast, ↓x_ckr, ↓x_ckn, ct_12_126, mt_12_524, ↓x_iinc_2_m1, ↓x_goto, mt_12_527, ft_12_44, mt_12_176, ↓x_iload_1, ↓x_icmp_lt, mt_12_278, ↓x_astore_3r, ↓x_astore_3n, ↓x_astore_3q, ↓x_aload_3r, ↓x_aload_3n, ↓x_aload_3q, ↓x_ifnull_n, ↓x_ifnull_r, ↓x_ifnull_q, ft_12_301, ↓x_iconst_4, ↓x_icmp_ne, ft_12_38, mt_12_79, ↓x_if_ne, mt_12_391, mt_12_530, mt_12_266, ft_12_51, mt_12_533, ↓x_return, Int.reduceAdd, Nat.reduceAdd, true_and, and_true, true_or, or_true, false_or, or_false, reduceCtorEq, false_and, and_false, and_self, or_self, false_implies, true_implies, not_true_eq_false, not_false_eq_true, implies_true, Option.some.injEq, kg12, kv12_5, kiL30, kiL31, kiL32, kg2, kg3, kg7, ki12, kv12_7, ki4, kv7_0, kv12_6, kv12_8, ki6, up_s, up_n]
        have Cf : Cb S (i + 1) t = false := by
          unfold Cb
          rw [t4, t5, decide_eq_false (show ¬ (3 : Int32) ≤ 2 by decide), Bool.false_or, decide_eq_false (show ¬ nI (i + 1) ≤ nI i by rw [i_le (by omega) (by omega)]; omega), Bool.and_false]
        have st := hDB.step t1 t2 Cf
        have st2 : DB own b (Cb S i) P U (k_uBC P1 own (dl U own t)) (k_ww U1 (dl U own t) none) := st.cg (fun u h1 h2 => by
          by_cases e : u = t
          · subst e
            rw [decide_eq_true rfl, Bool.or_true]
            unfold Cb
            rw [t4, t5, decide_eq_true (show (3 : Int32) = 3 from rfl), decide_eq_true (show nI i ≤ nI i from nI_le (Nat.le_refl _) (by omega))]
            rfl
          · rw [decide_eq_false e, Bool.or_false]
            unfold Cb
            by_cases s3 : S.2 47 u = 3
            · obtain ⟨e', e1, e2⟩ := hE.2.2.2.2.1 u h1 h2 s3
              obtain ⟨u', ρ, b1, b2, b3, b4, b5, b6, b7, b8, b9, c1, c2⟩ := hE.2.2.2.1 e' e1
              have : u' = u := by
                rw [e2, i_eq (by omega) (by omega)] at b1
                exact b1.symm
              subst this
              have ne : ρ ≠ i := fun z => by
                rw [z, t3, i_eq (by omega) (by omega)] at b9
                exact e b9.symm
              rw [b6]
              congr 2
              rw [decide_eq_decide, i_le (by omega) (by omega), i_le (by omega) (by omega)]
              constructor
              · intro h; omega
              · intro h; omega
            · rw [decide_eq_false s3, Bool.false_and, Bool.false_and])
        refine s111 _ _ ⟨st2.1, st2.2.1, st2.2.2.1, st2.2.2.2.1, st2.2.2.2.2.1, st2.2.2.2.2.2.1, st2.2.2.2.2.2.2⟩ (E2.zc k_ro.rf (E2.1.ww (fun y hy => by cases hy)) rfl) (fun a z1 z2 z3 => ?_) ?_ ?_ ?_
        · show (k_wl U1 (own + 16) _).2.1 a = _
          rw [k_ln z2]; exact u1 a z1 z2 z3
        · show (k_wl U1 (own + 16) _).2.1 (own + 15) = _
          rw [k_ln (by omega)]; exact u2
        · show (k_wl U1 (own + 16) _).2.1 (own + 16) = _
          exact k_ls
        · show (k_wl U1 (own + 16) _).2.1 (own + 18) = _
          rw [k_ln (by omega)]
      · have cw : y_cw (S.2 17) 4 0 (i + 1) = y_cw (S.2 17) 4 0 i := by rw [y_cw_s, Nat.zero_add, if_neg c4, Nat.add_zero]
        refine s111 P1 U1 (hDB.cg (fun u h1 h2 => ?_)) E1 u1 u2 (by rw [← cw]; exact u3) rfl
        unfold Cb
        by_cases s3 : S.2 47 u = 3
        · obtain ⟨e', e1, e2⟩ := hE.2.2.2.2.1 u h1 h2 s3
          obtain ⟨u', ρ, b1, b2, b3, b4, b5, b6, b7, b8, b9, c1, c2⟩ := hE.2.2.2.1 e' e1
          have : u' = u := by
            rw [e2, i_eq (by omega) (by omega)] at b1
            exact b1.symm
          subst this
          have ne : ρ ≠ i := fun z => by rw [z] at b8; exact c4 b8
          rw [b6]
          congr 2
          rw [decide_eq_decide, i_le (by omega) (by omega), i_le (by omega) (by omega)]
          constructor
          · intro h; omega
          · intro h; omega
        · rw [decide_eq_false s3, Bool.false_and, Bool.false_and]
  -- those under way
  have loop1 : ∀ j P1 U1, j ≤ l → DB own b (fun t => decide (t ∈ (v_lv l S.2).drop j)) P U P1 U1 → k_E N own Z U1 r → U1.2.1 = U.2.1 → e_Sm g 149 12 cd149 Ψ 10 [some (.ref own), some (.int (nI ν)), some (.int (nI j - 1)), none] [] (K_H Z P1 U1 (B, r)) := by
    intro j
    induction j with
    | zero =>
      intro P1 U1 _ hDB E1 u1
      rw [u149_10]
      simp (decide := true) (disch := first | assumption | omega) only [↓u149_0, ↓u149_35, ↓u149_111, ↓u149_124, ↓x_nil, ↓x_om, ↓x_aload_0r, ↓x_aload_0n, ↓x_aload_0q, ↓x_getfield, ft_12_35, ↓x_invokevirtual, mt_12_165, x_ps0, x_ps1, x_l40, x_l41, x_l42, x_l43, x_l44, ↓x_cv0, ↓x_iconst_1, ↓x_isub, ↓x_istore_2, x_cl_i, x_cl_r, x_cl_n, x_cl_q, x_cl_0, x_cl_l, ↓x_iload_2, ↓x_if_lt, mt_12_246, ↓x_cv1, ↓x_checkcast, ↓x_ckr, ↓x_ckn, ct_12_126, mt_12_524, ↓x_iinc_2_m1, ↓x_goto, mt_12_527, ft_12_44, mt_12_176, ↓x_iload_1, ↓x_icmp_lt, mt_12_278, ↓x_astore_3r, ↓x_astore_3n, ↓x_astore_3q, ↓x_aload_3r, ↓x_aload_3n, ↓x_aload_3q, ↓x_ifnull_n, ↓x_ifnull_r, ↓x_ifnull_q, ft_12_301, ↓x_iconst_4, ↓x_icmp_ne, ft_12_38, mt_12_79, ↓x_if_ne, mt_12_391, mt_12_530, mt_12_266, ft_12_51, mt_12_533, ↓x_return, Int.reduceAdd, Nat.reduceAdd, true_and, and_true, true_or, or_true, false_or, or_false, reduceCtorEq, false_and, and_false, and_self, or_self, false_implies, true_implies, not_true_eq_false, not_false_eq_true, implies_true, Option.some.injEq, kg12, kv12_5, kiL30, kiL31, kiL32, kg2, kg3, kg7, ki12, kv12_7, ki4, kv7_0, kv12_6, kv12_8, ki6, up_s, up_n]
      refine l_clear hA (k_tL30 a6) (E.1.cap _).1 ?_
      have E2 : k_E N own Z (k_wl U1 (own + 15) []) r := E1.zc k_ro.rf E1.1.wl0 rfl
      simp (decide := true) (disch := first | assumption | omega) only [↓u149_0, ↓u149_35, ↓u149_111, ↓u149_124, ↓x_nil, ↓x_om, ↓x_aload_0r, ↓x_aload_0n, ↓x_aload_0q, ↓x_getfield, ft_12_35, ↓x_invokevirtual, mt_12_165, x_ps0, x_ps1, x_l40, x_l41, x_l42, x_l43, x_l44, ↓x_cv0, ↓x_iconst_1, ↓x_isub, ↓x_istore_2, x_cl_i, x_cl_r, x_cl_n, x_cl_q, x_cl_0, x_cl_l, ↓x_iload_2, ↓x_if_lt, mt_12_246, ↓x_cv1, ↓x_checkcast, ↓x_ckr, ↓x_ckn, ct_12_126, mt_12_524, ↓x_iinc_2_m1, ↓x_goto, mt_12_527, ft_12_44, mt_12_176, ↓x_iload_1, ↓x_icmp_lt, mt_12_278, ↓x_astore_3r, ↓x_astore_3n, ↓x_astore_3q, ↓x_aload_3r, ↓x_aload_3n, ↓x_aload_3q, ↓x_ifnull_n, ↓x_ifnull_r, ↓x_ifnull_q, ft_12_301, ↓x_iconst_4, ↓x_icmp_ne, ft_12_38, mt_12_79, ↓x_if_ne, mt_12_391, mt_12_530, mt_12_266, ft_12_51, mt_12_533, ↓x_return, Int.reduceAdd, Nat.reduceAdd, true_and, and_true, true_or, or_true, false_or, or_false, reduceCtorEq, false_and, and_false, and_self, or_self, false_implies, true_implies, not_true_eq_false, not_false_eq_true, implies_true, Option.some.injEq, kg12, kv12_5, kiL30, kiL31, kiL32, kg2, kg3, kg7, ki12, kv12_7, ki4, kv7_0, kv12_6, kv12_8, ki6, up_s, up_n]
      refine h_logSize hg hA E2.1 a8' ?_
      have ll : ((k_wl U1 (own + 15) []).2.1 (own + 17 + 1)).length = nr := by rw [k_ln (by omega), u1]; exact l18
      rw [ll]
      simp (decide := true) (disch := first | assumption | omega) only [↓u149_0, ↓u149_35, ↓u149_111, ↓u149_124, ↓x_nil, ↓x_om, ↓x_aload_0r, ↓x_aload_0n, ↓x_aload_0q, ↓x_getfield, ft_12_35, ↓x_invokevirtual, mt_12_165, x_ps0, x_ps1, x_l40, x_l41, x_l42, x_l43, x_l44, ↓x_cv0, ↓x_iconst_1, ↓x_isub, ↓x_istore_2, x_cl_i, x_cl_r, x_cl_n, x_cl_q, x_cl_0, x_cl_l, ↓x_iload_2, ↓x_if_lt, mt_12_246, ↓x_cv1, ↓x_checkcast, ↓x_ckr, ↓x_ckn, ct_12_126, mt_12_524, ↓x_iinc_2_m1, ↓x_goto, mt_12_527, ft_12_44, mt_12_176, ↓x_iload_1, ↓x_icmp_lt, mt_12_278, ↓x_astore_3r, ↓x_astore_3n, ↓x_astore_3q, ↓x_aload_3r, ↓x_aload_3n, ↓x_aload_3q, ↓x_ifnull_n, ↓x_ifnull_r, ↓x_ifnull_q, ft_12_301, ↓x_iconst_4, ↓x_icmp_ne, ft_12_38, mt_12_79, ↓x_if_ne, mt_12_391, mt_12_530, mt_12_266, ft_12_51, mt_12_533, ↓x_return, Int.reduceAdd, Nat.reduceAdd, true_and, and_true, true_or, or_true, false_or, or_false, reduceCtorEq, false_and, and_false, and_self, or_self, false_implies, true_implies, not_true_eq_false, not_false_eq_true, implies_true, Option.some.injEq, kg12, kv12_5, kiL30, kiL31, kiL32, kg2, kg3, kg7, ki12, kv12_7, ki4, kv7_0, kv12_6, kv12_8, ki6, up_s, up_n]
      refine loop2 (nr - ν) nr P1 (k_wl U1 (own + 15) []) none (by omega) (Nat.le_refl _) (DB.cg (C := fun t => decide (t ∈ (v_lv l S.2).drop 0)) ⟨hDB.1, hDB.2.1, hDB.2.2.1, hDB.2.2.2.1, hDB.2.2.2.2.1, hDB.2.2.2.2.2.1, hDB.2.2.2.2.2.2⟩ (fun t t1 t2 => ?_)) E2 (fun a z1 z2 z3 => by rw [k_ln z1, u1]) k_ls ?_ ?_
      · rw [List.drop_zero]
        have h1 := cb_und (ν := nr) hD t1 t2
        have h2 := hD.2.2.2.2.2.2.2.2.1 t
        rw [Bool.eq_iff_iff, h1, decide_eq_true_eq, h2]
        constructor
        · rintro (w | ⟨w1, w2⟩)
          · exact ⟨t1, t2, w⟩
          · exfalso
            obtain ⟨e', e1, e2⟩ := hE.2.2.2.2.1 t t1 t2 w1
            obtain ⟨u', ρ, b1, b2, b3, b4, b5, b6, b7, b8, b9, c1, c2⟩ := hE.2.2.2.1 e' e1
            have : u' = t := by
              rw [e2, i_eq (by omega) (by omega)] at b1
              exact b1.symm
            subst this
            rw [b6, i_le (by omega) (by omega)] at w2
            omega
        · intro w; exact Or.inl w.2.2
      · rw [k_ln (by omega), u1, hE.2.2.1, ← len16, List.take_length]
      · rw [k_ln (by omega), u1, ← l18, List.take_length]
    | succ j ih =>
      intro P1 U1 hj hDB E1 u1
      have ei : nI (j + 1) - 1 = nI j := by rw [i_s1 (by omega)]; rfl
      have nlt : ¬ nI j < 0 := Int32.not_lt.mpr (nI_pos' (by omega))
      have hjl : j < (v_lv l S.2).length := by rw [v_lvl]; omega
      have hg1 : (v_lv l S.2)[j]? = some (v_lv l S.2)[j] := List.getElem?_eq_getElem hjl
      have dj : (v_lv l S.2).drop j = (v_lv l S.2)[j] :: (v_lv l S.2).drop (j + 1) := List.drop_eq_getElem_cons hjl
      generalize (v_lv l S.2)[j] = t at hg1 dj
      have tm := lvm t (List.mem_of_getElem? hg1)
      have gd : (U1.2.1 (own + 15))[j]? = some (dl U own t) := by rw [u1, e15, List.getElem?_map, hg1]; rfl
      have td : Z.1 (dl U own t) = 3 := (dl_t E kDe.1 tm.1 tm.2).1
      have nin : t ∉ (v_lv l S.2).drop (j + 1) := fun z => by
        have pw : ((v_lv l S.2).drop j).Pairwise (· < ·) := lvp.sublist (List.drop_sublist _ _)
        rw [dj] at pw
        exact absurd ((List.pairwise_cons.mp pw).1 t z) (by omega)
      rw [u149_10, ei]
      simp (decide := true) (disch := first | assumption | omega) only [↓u149_0, ↓u149_35, ↓u149_111, ↓u149_124, ↓x_nil, ↓x_om, ↓x_aload_0r, ↓x_aload_0n, ↓x_aload_0q, ↓x_getfield, ft_12_35, ↓x_invokevirtual, mt_12_165, x_ps0, x_ps1, x_l40, x_l41, x_l42, x_l43, x_l44, ↓x_cv0, ↓x_iconst_1, ↓x_isub, ↓x_istore_2, x_cl_i, x_cl_r, x_cl_n, x_cl_q, x_cl_0, x_cl_l, ↓x_iload_2, ↓x_if_lt, mt_12_246, ↓x_cv1, ↓x_checkcast, ↓x_ckr, ↓x_ckn, ct_12_126, mt_12_524, ↓x_iinc_2_m1, ↓x_goto, mt_12_527, ft_12_44, mt_12_176, ↓x_iload_1, ↓x_icmp_lt, mt_12_278, ↓x_astore_3r, ↓x_astore_3n, ↓x_astore_3q, ↓x_aload_3r, ↓x_aload_3n, ↓x_aload_3q, ↓x_ifnull_n, ↓x_ifnull_r, ↓x_ifnull_q, ft_12_301, ↓x_iconst_4, ↓x_icmp_ne, ft_12_38, mt_12_79, ↓x_if_ne, mt_12_391, mt_12_530, mt_12_266, ft_12_51, mt_12_533, ↓x_return, Int.reduceAdd, Nat.reduceAdd, true_and, and_true, true_or, or_true, false_or, or_false, reduceCtorEq, false_and, and_false, and_self, or_self, false_implies, true_implies, not_true_eq_false, not_false_eq_true, implies_true, Option.some.injEq, kg12, kv12_5, kiL30, kiL31, kiL32, kg2, kg3, kg7, ki12, kv12_7, ki4, kv7_0, kv12_6, kv12_8, ki6, up_s, up_n]
      refine ⟨fun z => absurd z nlt, fun _ => ?_⟩
      refine l_get hA (k_tL30 a6) (E.1.cap _).1 gd ?_
      simp (decide := true) (disch := first | assumption | omega) only [↓u149_0, ↓u149_35, ↓u149_111, ↓u149_124, ↓x_nil, ↓x_om, ↓x_aload_0r, ↓x_aload_0n, ↓x_aload_0q, ↓x_getfield, ft_12_35, ↓x_invokevirtual, mt_12_165, x_ps0, x_ps1, x_l40, x_l41, x_l42, x_l43, x_l44, ↓x_cv0, ↓x_iconst_1, ↓x_isub, ↓x_istore_2, x_cl_i, x_cl_r, x_cl_n, x_cl_q, x_cl_0, x_cl_l, ↓x_iload_2, ↓x_if_lt, mt_12_246, ↓x_cv1, ↓x_checkcast, ↓x_ckr, ↓x_ckn, ct_12_126, mt_12_524, ↓x_iinc_2_m1, ↓x_goto, mt_12_527, ft_12_44, mt_12_176, ↓x_iload_1, ↓x_icmp_lt, mt_12_278, ↓x_astore_3r, ↓x_astore_3n, ↓x_astore_3q, ↓x_aload_3r, ↓x_aload_3n, ↓x_aload_3q, ↓x_ifnull_n, ↓x_ifnull_r, ↓x_ifnull_q, ft_12_301, ↓x_iconst_4, ↓x_icmp_ne, ft_12_38, mt_12_79, ↓x_if_ne, mt_12_391, mt_12_530, mt_12_266, ft_12_51, mt_12_533, ↓x_return, Int.reduceAdd, Nat.reduceAdd, true_and, and_true, true_or, or_true, false_or, or_false, reduceCtorEq, false_and, and_false, and_self, or_self, false_implies, true_implies, not_true_eq_false, not_false_eq_true, implies_true, Option.some.injEq, kg12, kv12_5, kiL30, kiL31, kiL32, kg2, kg3, kg7, ki12, kv12_7, ki4, kv7_0, kv12_6, kv12_8, ki6, up_s, up_n]
      refine h_undoByCut hg E1.1 tO td ?_
      simp (decide := true) (disch := first | assumption | omega) only [↓u149_0, ↓u149_35, ↓u149_111, ↓u149_124, ↓x_nil, ↓x_om, ↓x_aload_0r, ↓x_aload_0n, ↓x_aload_0q, ↓x_getfield, ft_12_35, ↓x_invokevirtual, mt_12_165, x_ps0, x_ps1, x_l40, x_l41, x_l42, x_l43, x_l44, ↓x_cv0, ↓x_iconst_1, ↓x_isub, ↓x_istore_2, x_cl_i, x_cl_r, x_cl_n, x_cl_q, x_cl_0, x_cl_l, ↓x_iload_2, ↓x_if_lt, mt_12_246, ↓x_cv1, ↓x_checkcast, ↓x_ckr, ↓x_ckn, ct_12_126, mt_12_524, ↓x_iinc_2_m1, ↓x_goto, mt_12_527, ft_12_44, mt_12_176, ↓x_iload_1, ↓x_icmp_lt, mt_12_278, ↓x_astore_3r, ↓x_astore_3n, ↓x_astore_3q, ↓x_aload_3r, ↓x_aload_3n, ↓x_aload_3q, ↓x_ifnull_n, ↓x_ifnull_r, ↓x_ifnull_q, ft_12_301, ↓x_iconst_4, ↓x_icmp_ne, ft_12_38, mt_12_79, ↓x_if_ne, mt_12_391, mt_12_530, mt_12_266, ft_12_51, mt_12_533, ↓x_return, Int.reduceAdd, Nat.reduceAdd, true_and, and_true, true_or, or_true, false_or, or_false, reduceCtorEq, false_and, and_false, and_self, or_self, false_implies, true_implies, not_true_eq_false, not_false_eq_true, implies_true, Option.some.injEq, kg12, kv12_5, kiL30, kiL31, kiL32, kg2, kg3, kg7, ki12, kv12_7, ki4, kv7_0, kv12_6, kv12_8, ki6, up_s, up_n]
      have es : nI j + -1 = nI j - 1 := by rw [← Int32.sub_eq_add_neg]
      have st := (hDB.step tm.1 tm.2 (decide_eq_false nin)).cg (C' := fun u => decide (u ∈ (v_lv l S.2).drop j)) (fun u _ _ => by
        rw [dj, Bool.eq_iff_iff, Bool.or_eq_true, decide_eq_true_eq, decide_eq_true_eq, decide_eq_true_eq, List.mem_cons]
        exact Or.comm)
      have := ih _ (k_ww U1 (dl U own t) none) (by omega) st (E1.zc k_ro.rf (E1.1.ww (fun y hy => by cases hy)) rfl) u1
      simpa only [es] using this
  refine e_call (cd := cd149) hg ok149 (by rw [mL149]; exact Nat.le_of_ble_eq_true rfl) ?_
  rw [mL149]
  simp only [x_ini, x_inr, x_inn, x_inq, x_inl, x_in0, x_rp0, x_rps, Nat.reduceSub]
  simp (decide := true) (disch := first | assumption | omega) only [↓u149_0, ↓u149_35, ↓u149_111, ↓u149_124, ↓x_nil, ↓x_om, ↓x_aload_0r, ↓x_aload_0n, ↓x_aload_0q, ↓x_getfield, ft_12_35, ↓x_invokevirtual, mt_12_165, x_ps0, x_ps1, x_l40, x_l41, x_l42, x_l43, x_l44, ↓x_cv0, ↓x_iconst_1, ↓x_isub, ↓x_istore_2, x_cl_i, x_cl_r, x_cl_n, x_cl_q, x_cl_0, x_cl_l, ↓x_iload_2, ↓x_if_lt, mt_12_246, ↓x_cv1, ↓x_checkcast, ↓x_ckr, ↓x_ckn, ct_12_126, mt_12_524, ↓x_iinc_2_m1, ↓x_goto, mt_12_527, ft_12_44, mt_12_176, ↓x_iload_1, ↓x_icmp_lt, mt_12_278, ↓x_astore_3r, ↓x_astore_3n, ↓x_astore_3q, ↓x_aload_3r, ↓x_aload_3n, ↓x_aload_3q, ↓x_ifnull_n, ↓x_ifnull_r, ↓x_ifnull_q, ft_12_301, ↓x_iconst_4, ↓x_icmp_ne, ft_12_38, mt_12_79, ↓x_if_ne, mt_12_391, mt_12_530, mt_12_266, ft_12_51, mt_12_533, ↓x_return, Int.reduceAdd, Nat.reduceAdd, true_and, and_true, true_or, or_true, false_or, or_false, reduceCtorEq, false_and, and_false, and_self, or_self, false_implies, true_implies, not_true_eq_false, not_false_eq_true, implies_true, Option.some.injEq, kg12, kv12_5, kiL30, kiL31, kiL32, kg2, kg3, kg7, ki12, kv12_7, ki4, kv7_0, kv12_6, kv12_8, ki6, up_s, up_n]
  refine l_size hA (k_tL30 a6) ?_
  rw [len15]
  simp (decide := true) (disch := first | assumption | omega) only [↓u149_0, ↓u149_35, ↓u149_111, ↓u149_124, ↓x_nil, ↓x_om, ↓x_aload_0r, ↓x_aload_0n, ↓x_aload_0q, ↓x_getfield, ft_12_35, ↓x_invokevirtual, mt_12_165, x_ps0, x_ps1, x_l40, x_l41, x_l42, x_l43, x_l44, ↓x_cv0, ↓x_iconst_1, ↓x_isub, ↓x_istore_2, x_cl_i, x_cl_r, x_cl_n, x_cl_q, x_cl_0, x_cl_l, ↓x_iload_2, ↓x_if_lt, mt_12_246, ↓x_cv1, ↓x_checkcast, ↓x_ckr, ↓x_ckn, ct_12_126, mt_12_524, ↓x_iinc_2_m1, ↓x_goto, mt_12_527, ft_12_44, mt_12_176, ↓x_iload_1, ↓x_icmp_lt, mt_12_278, ↓x_astore_3r, ↓x_astore_3n, ↓x_astore_3q, ↓x_aload_3r, ↓x_aload_3n, ↓x_aload_3q, ↓x_ifnull_n, ↓x_ifnull_r, ↓x_ifnull_q, ft_12_301, ↓x_iconst_4, ↓x_icmp_ne, ft_12_38, mt_12_79, ↓x_if_ne, mt_12_391, mt_12_530, mt_12_266, ft_12_51, mt_12_533, ↓x_return, Int.reduceAdd, Nat.reduceAdd, true_and, and_true, true_or, or_true, false_or, or_false, reduceCtorEq, false_and, and_false, and_self, or_self, false_implies, true_implies, not_true_eq_false, not_false_eq_true, implies_true, Option.some.injEq, kg12, kv12_5, kiL30, kiL31, kiL32, kg2, kg3, kg7, ki12, kv12_7, ki4, kv7_0, kv12_6, kv12_8, ki6, up_s, up_n]
  refine loop1 l P U (Nat.le_refl _) (DB.rf.cg (fun t _ _ => ?_)) E rfl
  rw [List.drop_eq_nil_of_le (by rw [v_lvl]; exact Nat.le_refl _)]
  exact decide_eq_false (fun h => by cases h)
end VT
