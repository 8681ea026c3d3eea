/-! redo and tellVersions as calls -/
section UN
variable {g : e_G} {Ψ : e_Q} {B : Nat → Option e_Cl} {Z : k_Z} {P P0 : k_P} {U : k_U} {r : Nat × Nat} {S : m_S} {A0 : m_A} {N own n b nr na d s x0 ahead t f0 : Nat} {st : Nat → m_S → m_S} {ch : Nat → List Nat} {e : Int32}
theorem ar_R.mono {n n' o k : Nat} {a b : Int32} (h : ar_R n o k a b) (hn : n ≤ n') : ar_R n' o k a b := by
  obtain ⟨h1, h2, h3, h4, h5⟩ := h
  refine ⟨h1, h2, h3, fun z => ?_, fun z => ?_⟩
  · rcases h4 z with e | ⟨q, q1, q2⟩
    · exact Or.inl e
    · exact Or.inr ⟨q, by omega, q2⟩
  · obtain ⟨q, q1, q2⟩ := h5 z
    exact ⟨q, by omega, q2⟩
/-- the acts of one that stand, and their rows -/
theorem act_rows (hL : I_lg n b nr na ch S) (kLg : K_lg own b nr ch P U S) (hb : b ≤ 400) (h1 : 1 ≤ t) (h2 : t ≤ b) (hu : undw S.2 t ∨ S.2 47 t = 3) (num : P.1 40 d = nI t) :
    (ch t).reverse.Pairwise (fun i j => ar S.2 i < ar S.2 j) ∧ (∀ q ∈ (ch t).reverse, ar S.2 q < nr) ∧ (∀ ρ x, (U.2.1 (own + 18))[ρ]? = some x → (k_actO P x d = true ↔ ∃ q ∈ (ch t).reverse, ar S.2 q = ρ)) ∧
    ∀ q ∈ (ch t).reverse, aok n S.2 q ∧ ∀ x, (U.2.1 (own + 18))[ar S.2 q]? = some x → P.1 142 x = S.2 35 q ∧ P.1 143 x = S.2 36 q ∧ P.1 144 x = S.2 37 q ∧ P.1 145 x = S.2 38 q ∧ P.1 146 x = S.2 39 q := by
  obtain ⟨g1, g2, g3, g4, g5, g6, g7, g8, g9, g10⟩ := hL
  obtain ⟨k1, k2, k3, k4, k5⟩ := kLg
  obtain ⟨c1, c2, c3, c4, c5⟩ := g7 t h1 h2 hu
  have n40 := g3.1
  refine ⟨List.pairwise_reverse.mpr c5, fun q hq => (c4 q (List.mem_reverse.mp hq)).2.2.1, fun ρ x hx => ?_, fun q hq => ?_⟩
  · obtain ⟨⟨r1, r2, _⟩, _⟩ := k3 ρ x hx
    unfold k_actO
    rw [r1, r2, num, Bool.and_eq_true, Bool.and_eq_true, beq_iff_eq, beq_iff_eq, beq_iff_eq]
    constructor
    · rintro ⟨⟨z1, z2⟩, z3⟩
      obtain ⟨q, q1, q2⟩ := (k4 t h1 h2 hu ρ x hx z1 z2).mp z3
      exact ⟨q, List.mem_reverse.mpr q1, q2⟩
    · rintro ⟨q, q1, q2⟩
      have q1' := List.mem_reverse.mp q1
      obtain ⟨a1, a2, a3, a4, a5, _⟩ := c4 q q1'
      rw [q2] at a4 a5
      exact ⟨⟨a4, a5⟩, (k4 t h1 h2 hu ρ x hx a4 a5).mpr ⟨q, q1', q2⟩⟩
  · obtain ⟨a1, a2, a3, a4, a5, a6, a7, a8, a9, b1, b2, b3⟩ := c4 q (List.mem_reverse.mp hq)
    obtain ⟨u, o, k, i1, i2, i3, i4, i5, i6, i7, i8, i9, j1, j2, j3⟩ := (g6 _ a3).2.1 a4
    have mdn : md S.2 (ar S.2 q) ≤ n := by rw [g2]; exact md_mono (by omega)
    refine ⟨⟨o, k, by omega, i7, by rw [a6]; exact i4, by rw [a7]; exact i6, by rw [a8, a9]; exact i8.mono mdn, fun z => ?_⟩, fun x hx => ?_⟩
    · rw [a9]
      rcases z with z | z
      · obtain ⟨p, p1, p2, _⟩ := j2 z
        exact ⟨p, by omega, p2⟩
      · obtain ⟨p, p1, _, p2, _⟩ := j3 z
        exact ⟨p, by omega, p2⟩
    · obtain ⟨⟨r1, r2, r3, r4, r5, r6, r7, r8⟩, _⟩ := k3 _ x hx
      exact ⟨by rw [r3, a6], by rw [r4, a7], by rw [r5, a8], by rw [r6, a9], by rw [r7, b1]⟩
theorem s_redo (hg : e_GK g) (hA : e_AK g) (w : k_W N Z U) (tO : Z.1 own = 13) (td : Z.1 d = 3) (ap : R_ap U s n) (hob : R_ob n A0) (hx : x0 = 0 ∨ x0 = 40 ∨ x0 = 80) (hlen : (U.2.1 (own + 18)).length ≤ 2300) (ha : ahead ≤ (U.2.1 (own + 18)).length) (hst : st_ok x0 st) {L : List Nat} (hf0 : P.1 51 d = nI f0) (hf : f0 ≤ 2000)
    (hp : L.Pairwise (fun a b => ar A0 a < ar A0 b)) (hL : ∀ j ∈ L, f0 ≤ ar A0 j ∧ ar A0 j < ahead)
    (hρ : ∀ ρ x, f0 ≤ ρ → ρ < ahead → (U.2.1 (own + 18))[ρ]? = some x → (k_actO P x d = true ↔ ∃ j ∈ L, ar A0 j = ρ))
    (hr : ∀ j ∈ L, aok n A0 j ∧ ∀ x, (U.2.1 (own + 18))[ar A0 j]? = some x → P.1 142 x = A0 35 j ∧ P.1 143 x = A0 36 j ∧ P.1 144 x = A0 37 j ∧ P.1 145 x = A0 38 j ∧ P.1 146 x = A0 39 j)
    (hs : k_Sh Z P U s n) (hS : R_sh P U s n S.2 x0) (hA0 : ∀ f ∈ fp_fx, S.2 f = A0 f) (hit : S.1 29 = 0) (hcs : S.1 32 = nI n) (htr : 0 ≤ S.1 30) (hsz : w_sz S.2)
    (q : w_al x0 st L S → ∀ P', k_Sh Z P' U s n → R_sh P' U s n (Rd x0 st L true S).2.2 x0 → fr_S U s n P P' → elS x0 n S.2 (Rd x0 st L true S).2.2 → w_sz (Rd x0 st L true S).2.2 → Ψ (some (.int (b_v (Rd x0 st L true S).1))) (K_H Z P' U (B, r))) :
    e_Sc g 147 [.ref own, .ref d, .int (nI ahead), .ref s] (K_H Z P U (B, r)) Ψ := by
  refine e_call (cd := cd147) hg ok147 (by rw [mL147]; exact Nat.le_of_ble_eq_true rfl) ?_
  rw [mL147]
  simp only [x_ini, x_inr, x_inn, x_inq, x_inl, x_in0, x_rp0, x_rps, Nat.reduceSub]
  simp (decide := true) (disch := first | assumption | omega) only [↓u147_0, ↓u147_6, ↓u147_113, ↓x_nil, ↓x_om, ↓x_aload_1r, ↓x_aload_1n, ↓x_aload_1q, ↓x_ifnonnull_n, ↓x_ifnonnull_r, ↓x_ifnonnull_q, ↓x_iconst_0, ↓x_ireturn, rt147, ↓x_iconst_1, ↓x_istore_4, x_cl_i, x_cl_r, x_cl_n, x_cl_q, x_cl_0, x_cl_l, ↓x_getfield, ft_12_381, ↓x_istore_5, ↓x_iload_5, ↓x_iload_2, ↓x_icmp_ge, ↓x_aload_0r, ↓x_aload_0n, ↓x_aload_0q, ft_12_44, ↓x_invokevirtual, mt_12_278, x_ps0, x_ps1, x_l40, x_l41, x_l42, x_l43, x_l44, ↓x_cv1, ↓x_astore_6r, ↓x_astore_6n, ↓x_astore_6q, ↓x_aload_6r, ↓x_aload_6n, ↓x_aload_6q, ↓x_ifnull_n, ↓x_ifnull_r, ↓x_ifnull_q, mt_12_397, ↓x_if_eq, ↓x_aload_3r, ↓x_aload_3n, ↓x_aload_3q, ft_12_515, ft_12_304, ft_12_310, ft_12_307, mt_12_472, ↓x_cv4, ↓x_iload_4, ft_12_320, ft_12_475, ↓x_if_ne, ft_12_476, ft_12_516, ↓x_icmp_ne, ↓x_goto, ↓x_iinc_5_1, Int.reduceAdd, Nat.reduceAdd, true_and, and_true, true_or, or_true, false_or, or_false, reduceCtorEq, false_and, and_false, and_self, or_self, false_implies, true_implies, not_true_eq_false, not_false_eq_true, implies_true, Option.some.injEq, hf0, kg2, kv2_11, kg12, kv12_7, ki4, ki7, kg7, kv7_2, kv7_3, kv7_4, kv7_5, ki8, kg8, kv8_2, kg5, kv5_1, kv5_0, kv7_6, up_s, up_n]
  by_cases hfa : f0 ≤ ahead
  · exact s_redoL hg hA w tO td ap hob hx hlen ha hst (ahead - f0) f0 L true P S _ (by omega) hp hL hρ hr hs hS fr_S.rf hA0 hit hcs htr hsz q
  · have l0 : L = [] := by
      cases L with
      | nil => rfl
      | cons j L => have := hL j (List.mem_cons_self ..); omega
    subst l0
    have fin := q trivial P hs hS fr_S.rf elS.rf hsz
    rw [u147_15]
    simp (decide := true) (disch := first | assumption | omega) only [↓u147_0, ↓u147_6, ↓u147_104, ↓u147_105, ↓u147_113, ↓x_nil, ↓x_om, ↓x_aload_1r, ↓x_aload_1n, ↓x_aload_1q, ↓x_ifnonnull_n, ↓x_ifnonnull_r, ↓x_ifnonnull_q, ↓x_iconst_0, ↓x_ireturn, rt147, ↓x_iconst_1, ↓x_istore_4, x_cl_i, x_cl_r, x_cl_n, x_cl_q, x_cl_0, x_cl_l, ↓x_getfield, ft_12_381, ↓x_istore_5, ↓x_iload_5, ↓x_iload_2, ↓x_icmp_ge, ↓x_aload_0r, ↓x_aload_0n, ↓x_aload_0q, ft_12_44, ↓x_invokevirtual, mt_12_278, x_ps0, x_ps1, x_l40, x_l41, x_l42, x_l43, x_l44, ↓x_cv1, ↓x_astore_6r, ↓x_astore_6n, ↓x_astore_6q, ↓x_aload_6r, ↓x_aload_6n, ↓x_aload_6q, ↓x_ifnull_n, ↓x_ifnull_r, ↓x_ifnull_q, mt_12_397, ↓x_if_eq, ↓x_aload_3r, ↓x_aload_3n, ↓x_aload_3q, ft_12_515, ft_12_304, ft_12_310, ft_12_307, mt_12_472, ↓x_cv4, ↓x_iload_4, ft_12_320, ft_12_475, ↓x_if_ne, ft_12_476, ft_12_516, ↓x_icmp_ne, ↓x_goto, ↓x_iinc_5_1, Int.reduceAdd, Nat.reduceAdd, true_and, and_true, true_or, or_true, false_or, or_false, reduceCtorEq, false_and, and_false, and_self, or_self, false_implies, true_implies, not_true_eq_false, not_false_eq_true, implies_true, Option.some.injEq, i_add, i_a1, i_m8, i_m5, i_m401, i_40, i_80, i_r40, i_s1, i_am1, i_sub, i_lt, i_le, i_eq, i_m1, il_le_0, il_ge_0, il_lt_0, il_gt_0, il_eq_0, il_le_1, il_ge_1, il_lt_1, il_gt_1, il_eq_1, il_le_2, il_ge_2, il_lt_2, il_gt_2, il_eq_2, il_le_3, il_ge_3, il_lt_3, il_gt_3, il_eq_3, il_le_4, il_ge_4, il_lt_4, il_gt_4, il_eq_4, il_le_5, il_ge_5, il_lt_5, il_gt_5, il_eq_5, il_le_6, il_ge_6, il_lt_6, il_gt_6, il_eq_6, il_le_7, il_ge_7, il_lt_7, il_gt_7, il_eq_7, il_le_8, il_ge_8, il_lt_8, il_gt_8, il_eq_8, il_le_12, il_ge_12, il_lt_12, il_gt_12, il_eq_12, il_le_16, il_ge_16, il_lt_16, il_gt_16, il_eq_16, il_le_20, il_ge_20, il_lt_20, il_gt_20, il_eq_20, il_le_21, il_ge_21, il_lt_21, il_gt_21, il_eq_21, il_le_40, il_ge_40, il_lt_40, il_gt_40, il_eq_40, il_le_100, il_ge_100, il_lt_100, il_gt_100, il_eq_100, il_le_120, il_ge_120, il_lt_120, il_gt_120, il_eq_120, il_le_200, il_ge_200, il_lt_200, il_gt_200, il_eq_200, il_le_400, il_ge_400, il_lt_400, il_gt_400, il_eq_400, il_le_700, il_ge_700, il_lt_700, il_gt_700, il_eq_700, kg2, kv2_11, kg12, kv12_7, ki4, ki7, kg7, kv7_2, kv7_3, kv7_4, kv7_5, ki8, kg8, kv8_2, kg5, kv5_1, kv5_0, kv7_6, up_s, up_n]
    exact ⟨fun _ => fin, fun c => by omega⟩
theorem s_tell (hg : e_GK g) (hA : e_AK g) (E : k_E N own Z U r) (td : Z.1 d = 3) (hlen : (U.2.1 (own + 18)).length ≤ 2300) (ha : ahead ≤ (U.2.1 (own + 18)).length) {L : List Nat} (hf0 : P.1 51 d = nI f0) (hf : f0 ≤ 2000)
    (hp : L.Pairwise (fun a b => ar A0 a < ar A0 b)) (hL : ∀ j ∈ L, f0 ≤ ar A0 j ∧ ar A0 j < ahead)
    (hρ : ∀ ρ x, f0 ≤ ρ → ρ < ahead → (U.2.1 (own + 18))[ρ]? = some x → (k_actO P x d = true ↔ ∃ j ∈ L, ar A0 j = ρ))
    (hr : ∀ j ∈ L, aok n A0 j ∧ ∀ x, (U.2.1 (own + 18))[ar A0 j]? = some x → P.1 142 x = A0 35 j ∧ P.1 143 x = A0 36 j ∧ P.1 144 x = A0 37 j ∧ P.1 145 x = A0 38 j)
    (hsp : k_Sp U own n) (hn : n ≤ 40) (ee : P.1 50 d = e) (hs1 : k_Sh Z P U (own + 1) n) (hs5 : k_Sh Z P U (own + 5) n) (hS : R_sh P U (own + 5) n S.2 40) (hK : K_ve own n P U S) (hW : ∀ o, o < n → S.2 101 o = b_v (L.any (fun j => wrt A0 j o))) (hv : ∀ x, x < n → ∃ v, 1 ≤ v ∧ v ≤ 400 ∧ S.2 97 x = nI v)
    (q : ∀ P', k_Sh Z P' U (own + 1) n → k_Sh Z P' U (own + 5) n → K_ve own n P' U (y_kv e 0 n S) → VF own n U P P' → Ψ none (K_H Z P' U (B, r))) :
    e_Sc g 148 [.ref own, .ref d, .int (nI ahead)] (K_H Z P U (B, r)) Ψ := by
  refine e_call (cd := cd148) hg ok148 (by rw [mL148]; exact Nat.le_of_ble_eq_true rfl) ?_
  rw [mL148]
  simp only [x_ini, x_inr, x_inn, x_inq, x_inl, x_in0, x_rp0, x_rps, Nat.reduceSub]
  simp (decide := true) (disch := first | assumption | omega) only [↓u148_0, ↓u148_122, ↓u148_128, ↓x_nil, ↓x_om, ↓x_lconst_0, ↓x_lstore_3, x_cl_i, x_cl_r, x_cl_n, x_cl_q, x_cl_0, x_cl_l, ↓x_aload_1r, ↓x_aload_1n, ↓x_aload_1q, ↓x_getfield, ft_12_381, ↓x_istore_5, ↓x_iload_5, ↓x_iload_2, ↓x_icmp_ge, ↓x_aload_0r, ↓x_aload_0n, ↓x_aload_0q, ft_12_44, ↓x_invokevirtual, mt_12_278, x_ps0, x_ps1, x_l40, x_l41, x_l42, x_l43, x_l44, ↓x_cv1, ↓x_astore_6r, ↓x_astore_6n, ↓x_astore_6q, ↓x_aload_6r, ↓x_aload_6n, ↓x_aload_6q, ↓x_ifnull_n, ↓x_ifnull_r, ↓x_ifnull_q, mt_12_397, ↓x_if_eq, ↓x_lload_3, mt_12_517, ↓x_cv0, ↓x_lor, ↓x_iinc_5_1, ↓x_goto, ↓x_iconst_0, ft_12_12, ft_12_86, mt_12_136, ft_12_16, mt_12_69, ↓x_astore_7r, ↓x_astore_7n, ↓x_astore_7q, ↓x_aload_7r, ↓x_aload_7n, ↓x_aload_7q, ↓x_lshr, ↓x_lconst_1, ↓x_land, ↓x_lcmp, ↓x_if_ne, ft_12_167, mt_12_113, mt_12_521, ↓x_cv2, ↓x_return, Int.reduceAdd, Nat.reduceAdd, true_and, and_true, true_or, or_true, false_or, or_false, reduceCtorEq, false_and, and_false, and_self, or_self, false_implies, true_implies, not_true_eq_false, not_false_eq_true, implies_true, Option.some.injEq, hf0, kg2, kv2_11, kg12, kv12_7, ki4, ki7, kv12_0, kg8, kv8_1, ki12, kv12_1, ki8, kv2_10, ki11, ki9, up_s, up_n]
  have k53 : ∀ μ w5 w6 w7, (∀ o, o < 40 → bl μ o = (bl 0 o || L.any (fun j => wrt A0 j o))) → e_Sm g 148 12 cd148 Ψ 53 [some (.ref own), some (.ref d), some (.int (nI ahead)), some (.long μ), none, w5, w6, w7] [] (K_H Z P U (B, r)) := by
    intro μ w5 w6 w7 hb
    rw [u148_53]
    simp (decide := true) (disch := first | assumption | omega) only [↓u148_0, ↓u148_53, ↓u148_122, ↓u148_128, ↓x_nil, ↓x_om, ↓x_lconst_0, ↓x_lstore_3, x_cl_i, x_cl_r, x_cl_n, x_cl_q, x_cl_0, x_cl_l, ↓x_aload_1r, ↓x_aload_1n, ↓x_aload_1q, ↓x_getfield, ft_12_381, ↓x_istore_5, ↓x_iload_5, ↓x_iload_2, ↓x_icmp_ge, ↓x_aload_0r, ↓x_aload_0n, ↓x_aload_0q, ft_12_44, ↓x_invokevirtual, mt_12_278, x_ps0, x_ps1, x_l40, x_l41, x_l42, x_l43, x_l44, ↓x_cv1, ↓x_astore_6r, ↓x_astore_6n, ↓x_astore_6q, ↓x_aload_6r, ↓x_aload_6n, ↓x_aload_6q, ↓x_ifnull_n, ↓x_ifnull_r, ↓x_ifnull_q, mt_12_397, ↓x_if_eq, ↓x_lload_3, mt_12_517, ↓x_cv0, ↓x_lor, ↓x_iinc_5_1, ↓x_goto, ↓x_iconst_0, ft_12_12, ft_12_86, mt_12_136, ft_12_16, mt_12_69, ↓x_astore_7r, ↓x_astore_7n, ↓x_astore_7q, ↓x_aload_7r, ↓x_aload_7n, ↓x_aload_7q, ↓x_lshr, ↓x_lconst_1, ↓x_land, ↓x_lcmp, ↓x_if_ne, ft_12_167, mt_12_113, mt_12_521, ↓x_cv2, ↓x_return, Int.reduceAdd, Nat.reduceAdd, true_and, and_true, true_or, or_true, false_or, or_false, reduceCtorEq, false_and, and_false, and_self, or_self, false_implies, true_implies, not_true_eq_false, not_false_eq_true, implies_true, Option.some.injEq, i_add, i_a1, i_m8, i_m5, i_m401, i_40, i_80, i_r40, i_s1, i_am1, i_sub, i_lt, i_le, i_eq, i_m1, il_le_0, il_ge_0, il_lt_0, il_gt_0, il_eq_0, il_le_1, il_ge_1, il_lt_1, il_gt_1, il_eq_1, il_le_2, il_ge_2, il_lt_2, il_gt_2, il_eq_2, il_le_3, il_ge_3, il_lt_3, il_gt_3, il_eq_3, il_le_4, il_ge_4, il_lt_4, il_gt_4, il_eq_4, il_le_5, il_ge_5, il_lt_5, il_gt_5, il_eq_5, il_le_6, il_ge_6, il_lt_6, il_gt_6, il_eq_6, il_le_7, il_ge_7, il_lt_7, il_gt_7, il_eq_7, il_le_8, il_ge_8, il_lt_8, il_gt_8, il_eq_8, il_le_12, il_ge_12, il_lt_12, il_gt_12, il_eq_12, il_le_16, il_ge_16, il_lt_16, il_gt_16, il_eq_16, il_le_20, il_ge_20, il_lt_20, il_gt_20, il_eq_20, il_le_21, il_ge_21, il_lt_21, il_gt_21, il_eq_21, il_le_40, il_ge_40, il_lt_40, il_gt_40, il_eq_40, il_le_100, il_ge_100, il_lt_100, il_gt_100, il_eq_100, il_le_120, il_ge_120, il_lt_120, il_gt_120, il_eq_120, il_le_200, il_ge_200, il_lt_200, il_gt_200, il_eq_200, il_le_400, il_ge_400, il_lt_400, il_gt_400, il_eq_400, il_le_700, il_ge_700, il_lt_700, il_gt_700, il_eq_700, kg2, kv2_11, kg12, kv12_7, ki4, ki7, kv12_0, kg8, kv8_1, ki12, kv12_1, ki8, kv2_10, ki11, ki9, up_s, up_n]
    refine s_vers hg E td hsp hn ee n 0 P S _ _ (by omega) hs1 hs5 hS hK VF.rf (fun x _ hx => ?_) (fun x hx => ?_) (fun x _ hx => ?_) q
    · rw [hW x hx, hb x (by omega), bl_0, Bool.false_or]
    · obtain ⟨v, v1, v2, v3⟩ := hv x hx
      exact ⟨v, v1, by omega, v3⟩
    · obtain ⟨v, v1, v2, v3⟩ := hv x hx
      exact ⟨v, v2, v3⟩
  by_cases hfa : f0 ≤ ahead
  · exact s_mask hg hA E.1 E.2.1 td hlen ha (ahead - f0) f0 L 0 _ _ (by omega) hp hL hρ hr hn (fun μ w6 w7 hb => k53 μ _ w6 w7 hb)
  · have l0 : L = [] := by
      cases L with
      | nil => rfl
      | cons j L => have := hL j (List.mem_cons_self ..); omega
    have fin := fun w5 w6 w7 => k53 0 w5 w6 w7 (fun o _ => by rw [l0, List.any_nil, Bool.or_false])
    rw [u148_8]
    simp (decide := true) (disch := first | assumption | omega) only [↓u148_0, ↓u148_122, ↓u148_128, ↓x_nil, ↓x_om, ↓x_lconst_0, ↓x_lstore_3, x_cl_i, x_cl_r, x_cl_n, x_cl_q, x_cl_0, x_cl_l, ↓x_aload_1r, ↓x_aload_1n, ↓x_aload_1q, ↓x_getfield, ft_12_381, ↓x_istore_5, ↓x_iload_5, ↓x_iload_2, ↓x_icmp_ge, ↓x_aload_0r, ↓x_aload_0n, ↓x_aload_0q, ft_12_44, ↓x_invokevirtual, mt_12_278, x_ps0, x_ps1, x_l40, x_l41, x_l42, x_l43, x_l44, ↓x_cv1, ↓x_astore_6r, ↓x_astore_6n, ↓x_astore_6q, ↓x_aload_6r, ↓x_aload_6n, ↓x_aload_6q, ↓x_ifnull_n, ↓x_ifnull_r, ↓x_ifnull_q, mt_12_397, ↓x_if_eq, ↓x_lload_3, mt_12_517, ↓x_cv0, ↓x_lor, ↓x_iinc_5_1, ↓x_goto, ↓x_iconst_0, ft_12_12, ft_12_86, mt_12_136, ft_12_16, mt_12_69, ↓x_astore_7r, ↓x_astore_7n, ↓x_astore_7q, ↓x_aload_7r, ↓x_aload_7n, ↓x_aload_7q, ↓x_lshr, ↓x_lconst_1, ↓x_land, ↓x_lcmp, ↓x_if_ne, ft_12_167, mt_12_113, mt_12_521, ↓x_cv2, ↓x_return, Int.reduceAdd, Nat.reduceAdd, true_and, and_true, true_or, or_true, false_or, or_false, reduceCtorEq, false_and, and_false, and_self, or_self, false_implies, true_implies, not_true_eq_false, not_false_eq_true, implies_true, Option.some.injEq, i_add, i_a1, i_m8, i_m5, i_m401, i_40, i_80, i_r40, i_s1, i_am1, i_sub, i_lt, i_le, i_eq, i_m1, il_le_0, il_ge_0, il_lt_0, il_gt_0, il_eq_0, il_le_1, il_ge_1, il_lt_1, il_gt_1, il_eq_1, il_le_2, il_ge_2, il_lt_2, il_gt_2, il_eq_2, il_le_3, il_ge_3, il_lt_3, il_gt_3, il_eq_3, il_le_4, il_ge_4, il_lt_4, il_gt_4, il_eq_4, il_le_5, il_ge_5, il_lt_5, il_gt_5, il_eq_5, il_le_6, il_ge_6, il_lt_6, il_gt_6, il_eq_6, il_le_7, il_ge_7, il_lt_7, il_gt_7, il_eq_7, il_le_8, il_ge_8, il_lt_8, il_gt_8, il_eq_8, il_le_12, il_ge_12, il_lt_12, il_gt_12, il_eq_12, il_le_16, il_ge_16, il_lt_16, il_gt_16, il_eq_16, il_le_20, il_ge_20, il_lt_20, il_gt_20, il_eq_20, il_le_21, il_ge_21, il_lt_21, il_gt_21, il_eq_21, il_le_40, il_ge_40, il_lt_40, il_gt_40, il_eq_40, il_le_100, il_ge_100, il_lt_100, il_gt_100, il_eq_100, il_le_120, il_ge_120, il_lt_120, il_gt_120, il_eq_120, il_le_200, il_ge_200, il_lt_200, il_gt_200, il_eq_200, il_le_400, il_ge_400, il_lt_400, il_gt_400, il_eq_400, il_le_700, il_ge_700, il_lt_700, il_gt_700, il_eq_700, kg2, kv2_11, kg12, kv12_7, ki4, ki7, kv12_0, kg8, kv8_1, ki12, kv12_1, ki8, kv2_10, ki11, ki9, up_s, up_n]
    exact ⟨fun _ => fin _ _ _, fun c => by omega⟩
end UN
