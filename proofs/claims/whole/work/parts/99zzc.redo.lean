/-! redo: acts done again on a shelf -/
section UF
variable {g : e_G} {Ψ : e_Q} {B : Nat → Option e_Cl} {Z : k_Z} {P P0 P' : k_P} {U : k_U} {r : Nat × Nat} {S : m_S} {A0 : m_A} {N own n d s x0 ahead : Nat} {st : Nat → m_S → m_S}
/-- the acts (the first first) again: whether all answer as they did -/
def Rd (x0 : Nat) (st : Nat → m_S → m_S) : List Nat → Bool → m_S → Bool × m_S
  | [], b, S => (b, S)
  | i :: L, b, S => Rd x0 st L (b && (decide ((y_wk x0 i S).2.1 25 = 0) && decide ((y_wk x0 i S).1 = S.2 39 i))) (st i S)
def aok (n : Nat) (A : m_A) (i : Nat) : Prop := ∃ o k, o < n ∧ k < 22 ∧ A 35 i = nI o ∧ A 36 i = nI k ∧ ar_R n o k (A 37 i) (A 38 i) ∧ (k = 18 ∨ k = 19 → ∃ q, q < 40 ∧ A 38 i = nI q)
/-- each can be done again -/
def w_al (x0 : Nat) (st : Nat → m_S → m_S) : List Nat → m_S → Prop
  | [], _ => True
  | i :: L, S => w_wk x0 i S ∧ w_al x0 st L (st i S)
def fp_fx : List Nat := [35, 36, 37, 38, 39, 4, 5, 7]
/-- things elsewhere stay -/
def elS (x0 n : Nat) (A A' : m_A) : Prop := (∀ i, (i < x0 ∨ x0 + n ≤ i) → A' 9 i = A 9 i ∧ A' 10 i = A 10 i ∧ A' 11 i = A 11 i) ∧ ∀ i, (i < 8 * x0 ∨ 8 * (x0 + n) ≤ i) → A' 12 i = A 12 i
theorem elS.tr {A A' A'' : m_A} (h : elS x0 n A A') (k : elS x0 n A' A'') : elS x0 n A A'' := ⟨fun i hi => ⟨(k.1 i hi).1.trans (h.1 i hi).1, (k.1 i hi).2.1.trans (h.1 i hi).2.1, (k.1 i hi).2.2.trans (h.1 i hi).2.2⟩, fun i hi => (k.2 i hi).trans (h.2 i hi)⟩
theorem elS.rf {A : m_A} : elS x0 n A A := ⟨fun _ _ => ⟨rfl, rfl, rfl⟩, fun _ _ => rfl⟩
def st_ok (x0 : Nat) (st : Nat → m_S → m_S) : Prop := ∀ i S, (st i S).1 = (y_wk x0 i S).2.1 ∧ ∀ f, f ≠ 101 → (st i S).2 f = (y_wk x0 i S).2.2 f
theorem frS_f (h : fr_S U s n P P') {f a : Nat} (hf : f ∉ fp_pf) : P'.1 f a = P.1 f a := h.1 f a (fun _ => ⟨nmem hf (by decide), nmem hf (by decide), nmem hf (by decide), nmem hf (by decide)⟩) (fun _ => nmem hf (by decide))
theorem act_frm (h : fr_S U s n P P') {x : Nat} : k_actO P' x d = k_actO P x d := by
  unfold k_actO
  rw [frS_f h (by decide), frS_f h (by decide), frS_f h (by decide), frS_f h (by decide)]
theorem s_redoL (hg : e_GK g) (hA : e_AK g) (w : k_W N Z U) (tO : Z.1 own = 13) (td : Z.1 d = 3) (ap : R_ap U s n) (hob : R_ob n A0) (hx : x0 = 0 ∨ x0 = 40 ∨ x0 = 80) (hlen : (U.2.1 (own + 18)).length ≤ 2300) (ha : ahead ≤ (U.2.1 (own + 18)).length) (hst : st_ok x0 st) :
    ∀ (k i : Nat) (L : List Nat) (b : Bool) (P : k_P) (S : m_S) (w6 : Option Value), i + k = ahead → L.Pairwise (fun a b => ar A0 a < ar A0 b) → (∀ j ∈ L, i ≤ ar A0 j ∧ ar A0 j < ahead) →
    (∀ ρ x, i ≤ ρ → ρ < ahead → (U.2.1 (own + 18))[ρ]? = some x → (k_actO P0 x d = true ↔ ∃ j ∈ L, ar A0 j = ρ)) →
    (∀ j ∈ L, aok n A0 j ∧ ∀ x, (U.2.1 (own + 18))[ar A0 j]? = some x → P0.1 142 x = A0 35 j ∧ P0.1 143 x = A0 36 j ∧ P0.1 144 x = A0 37 j ∧ P0.1 145 x = A0 38 j ∧ P0.1 146 x = A0 39 j) →
    k_Sh Z P U s n → R_sh P U s n S.2 x0 → fr_S U s n P0 P → (∀ f ∈ fp_fx, S.2 f = A0 f) → S.1 29 = 0 → S.1 32 = nI n → 0 ≤ S.1 30 → w_sz S.2 →
    (w_al x0 st L S → ∀ P', k_Sh Z P' U s n → R_sh P' U s n (Rd x0 st L b S).2.2 x0 → fr_S U s n P0 P' → elS x0 n S.2 (Rd x0 st L b S).2.2 → w_sz (Rd x0 st L b S).2.2 → Ψ (some (.int (b_v (Rd x0 st L b S).1))) (K_H Z P' U (B, r))) →
    e_Sm g 147 12 cd147 Ψ 15 [some (.ref own), some (.ref d), some (.int (nI ahead)), some (.ref s), some (.int (b_v b)), some (.int (nI i)), w6] [] (K_H Z P U (B, r)) := by
  obtain ⟨a1, a2, a3, a4, a5, a6, a7, a8, a9, a10⟩ := w.hse tO
  have n40 := hob.1
  intro k
  induction k with
  | zero =>
    intro i L b P S w6 hi hp hL hρ hr hs hS hf hA0 hit hcs htr hsz q
    have l0 : L = [] := by
      cases L with
      | nil => rfl
      | cons j L => have := hL j (List.mem_cons_self ..); omega
    subst l0
    have fin := q trivial P hs hS hf elS.rf hsz
    rw [u147_15]
    simp (decide := true) (disch := first | assumption | omega) only [↓u147_0, ↓u147_6, ↓u147_104, ↓u147_105, ↓u147_113, ↓x_nil, ↓x_om, ↓x_aload_1r, ↓x_aload_1n, ↓x_aload_1q, ↓x_ifnonnull_n, ↓x_ifnonnull_r, ↓x_ifnonnull_q, ↓x_iconst_0, ↓x_ireturn, rt147, ↓x_iconst_1, ↓x_istore_4, x_cl_i, x_cl_r, x_cl_n, x_cl_q, x_cl_0, x_cl_l, ↓x_getfield, ft_12_381, ↓x_istore_5, ↓x_iload_5, ↓x_iload_2, ↓x_icmp_ge, ↓x_aload_0r, ↓x_aload_0n, ↓x_aload_0q, ft_12_44, ↓x_invokevirtual, mt_12_278, x_ps0, x_ps1, x_l40, x_l41, x_l42, x_l43, x_l44, ↓x_cv1, ↓x_astore_6r, ↓x_astore_6n, ↓x_astore_6q, ↓x_aload_6r, ↓x_aload_6n, ↓x_aload_6q, ↓x_ifnull_n, ↓x_ifnull_r, ↓x_ifnull_q, mt_12_397, ↓x_if_eq, ↓x_aload_3r, ↓x_aload_3n, ↓x_aload_3q, ft_12_515, ft_12_304, ft_12_310, ft_12_307, mt_12_472, ↓x_cv4, ↓x_iload_4, ft_12_320, ft_12_475, ↓x_if_ne, ft_12_476, ft_12_516, ↓x_icmp_ne, ↓x_goto, ↓x_iinc_5_1, Int.reduceAdd, Nat.reduceAdd, true_and, and_true, true_or, or_true, false_or, or_false, reduceCtorEq, false_and, and_false, and_self, or_self, false_implies, true_implies, not_true_eq_false, not_false_eq_true, implies_true, Option.some.injEq, i_add, i_a1, i_m8, i_m5, i_m401, i_40, i_80, i_r40, i_s1, i_am1, i_sub, i_lt, i_le, i_eq, i_m1, il_le_0, il_ge_0, il_lt_0, il_gt_0, il_eq_0, il_le_1, il_ge_1, il_lt_1, il_gt_1, il_eq_1, il_le_2, il_ge_2, il_lt_2, il_gt_2, il_eq_2, il_le_3, il_ge_3, il_lt_3, il_gt_3, il_eq_3, il_le_4, il_ge_4, il_lt_4, il_gt_4, il_eq_4, il_le_5, il_ge_5, il_lt_5, il_gt_5, il_eq_5, il_le_6, il_ge_6, il_lt_6, il_gt_6, il_eq_6, il_le_7, il_ge_7, il_lt_7, il_gt_7, il_eq_7, il_le_8, il_ge_8, il_lt_8, il_gt_8, il_eq_8, il_le_12, il_ge_12, il_lt_12, il_gt_12, il_eq_12, il_le_16, il_ge_16, il_lt_16, il_gt_16, il_eq_16, il_le_20, il_ge_20, il_lt_20, il_gt_20, il_eq_20, il_le_21, il_ge_21, il_lt_21, il_gt_21, il_eq_21, il_le_40, il_ge_40, il_lt_40, il_gt_40, il_eq_40, il_le_100, il_ge_100, il_lt_100, il_gt_100, il_eq_100, il_le_120, il_ge_120, il_lt_120, il_gt_120, il_eq_120, il_le_200, il_ge_200, il_lt_200, il_gt_200, il_eq_200, il_le_400, il_ge_400, il_lt_400, il_gt_400, il_eq_400, il_le_700, il_ge_700, il_lt_700, il_gt_700, il_eq_700, kg2, kv2_11, kg12, kv12_7, ki4, ki7, kg7, kv7_2, kv7_3, kv7_4, kv7_5, ki8, kg8, kv8_2, kg5, kv5_1, kv5_0, kv7_6, up_s, up_n]
    exact ⟨fun _ => ⟨b_v01, fin⟩, fun c => by omega⟩
  | succ k ih =>
    intro i L b P S w6 hi hp hL hρ hr hs hS hf hA0 hit hcs htr hsz q
    have hil : i < (U.2.1 (own + 18)).length := by omega
    have hx' : (U.2.1 (own + 18))[i]? = some (U.2.1 (own + 18))[i] := List.getElem?_eq_getElem hil
    generalize (U.2.1 (own + 18))[i] = x at hx'
    have t18 := w.log a8
    have tx : Z.1 x = 8 := w.lro t18 (List.mem_of_getElem? hx')
    have hact := hρ i x (Nat.le_refl _) (by omega) hx'
    rw [u147_15]
    simp (decide := true) (disch := first | assumption | omega) only [↓u147_0, ↓u147_6, ↓u147_113, ↓x_nil, ↓x_om, ↓x_aload_1r, ↓x_aload_1n, ↓x_aload_1q, ↓x_ifnonnull_n, ↓x_ifnonnull_r, ↓x_ifnonnull_q, ↓x_iconst_0, ↓x_ireturn, rt147, ↓x_iconst_1, ↓x_istore_4, x_cl_i, x_cl_r, x_cl_n, x_cl_q, x_cl_0, x_cl_l, ↓x_getfield, ft_12_381, ↓x_istore_5, ↓x_iload_5, ↓x_iload_2, ↓x_icmp_ge, ↓x_aload_0r, ↓x_aload_0n, ↓x_aload_0q, ft_12_44, ↓x_invokevirtual, mt_12_278, x_ps0, x_ps1, x_l40, x_l41, x_l42, x_l43, x_l44, ↓x_cv1, ↓x_astore_6r, ↓x_astore_6n, ↓x_astore_6q, ↓x_aload_6r, ↓x_aload_6n, ↓x_aload_6q, ↓x_ifnull_n, ↓x_ifnull_r, ↓x_ifnull_q, mt_12_397, ↓x_if_eq, ↓x_aload_3r, ↓x_aload_3n, ↓x_aload_3q, ft_12_515, ft_12_304, ft_12_310, ft_12_307, mt_12_472, ↓x_cv4, ↓x_iload_4, ft_12_320, ft_12_475, ↓x_if_ne, ft_12_476, ft_12_516, ↓x_icmp_ne, ↓x_goto, ↓x_iinc_5_1, Int.reduceAdd, Nat.reduceAdd, true_and, and_true, true_or, or_true, false_or, or_false, reduceCtorEq, false_and, and_false, and_self, or_self, false_implies, true_implies, not_true_eq_false, not_false_eq_true, implies_true, Option.some.injEq, i_add, i_a1, i_m8, i_m5, i_m401, i_40, i_80, i_r40, i_s1, i_am1, i_sub, i_lt, i_le, i_eq, i_m1, il_le_0, il_ge_0, il_lt_0, il_gt_0, il_eq_0, il_le_1, il_ge_1, il_lt_1, il_gt_1, il_eq_1, il_le_2, il_ge_2, il_lt_2, il_gt_2, il_eq_2, il_le_3, il_ge_3, il_lt_3, il_gt_3, il_eq_3, il_le_4, il_ge_4, il_lt_4, il_gt_4, il_eq_4, il_le_5, il_ge_5, il_lt_5, il_gt_5, il_eq_5, il_le_6, il_ge_6, il_lt_6, il_gt_6, il_eq_6, il_le_7, il_ge_7, il_lt_7, il_gt_7, il_eq_7, il_le_8, il_ge_8, il_lt_8, il_gt_8, il_eq_8, il_le_12, il_ge_12, il_lt_12, il_gt_12, il_eq_12, il_le_16, il_ge_16, il_lt_16, il_gt_16, il_eq_16, il_le_20, il_ge_20, il_lt_20, il_gt_20, il_eq_20, il_le_21, il_ge_21, il_lt_21, il_gt_21, il_eq_21, il_le_40, il_ge_40, il_lt_40, il_gt_40, il_eq_40, il_le_100, il_ge_100, il_lt_100, il_gt_100, il_eq_100, il_le_120, il_ge_120, il_lt_120, il_gt_120, il_eq_120, il_le_200, il_ge_200, il_lt_200, il_gt_200, il_eq_200, il_le_400, il_ge_400, il_lt_400, il_gt_400, il_eq_400, il_le_700, il_ge_700, il_lt_700, il_gt_700, il_eq_700, kg2, kv2_11, kg12, kv12_7, ki4, ki7, kg7, kv7_2, kv7_3, kv7_4, kv7_5, ki8, kg8, kv8_2, kg5, kv5_1, kv5_0, kv7_6, up_s, up_n]
    refine ⟨fun c => by omega, fun _ => ?_⟩
    refine h_logAt hg hA w a8 hx' hlen ?_
    simp (decide := true) (disch := first | assumption | omega) only [↓u147_0, ↓u147_6, ↓u147_113, ↓x_nil, ↓x_om, ↓x_aload_1r, ↓x_aload_1n, ↓x_aload_1q, ↓x_ifnonnull_n, ↓x_ifnonnull_r, ↓x_ifnonnull_q, ↓x_iconst_0, ↓x_ireturn, rt147, ↓x_iconst_1, ↓x_istore_4, x_cl_i, x_cl_r, x_cl_n, x_cl_q, x_cl_0, x_cl_l, ↓x_getfield, ft_12_381, ↓x_istore_5, ↓x_iload_5, ↓x_iload_2, ↓x_icmp_ge, ↓x_aload_0r, ↓x_aload_0n, ↓x_aload_0q, ft_12_44, ↓x_invokevirtual, mt_12_278, x_ps0, x_ps1, x_l40, x_l41, x_l42, x_l43, x_l44, ↓x_cv1, ↓x_astore_6r, ↓x_astore_6n, ↓x_astore_6q, ↓x_aload_6r, ↓x_aload_6n, ↓x_aload_6q, ↓x_ifnull_n, ↓x_ifnull_r, ↓x_ifnull_q, mt_12_397, ↓x_if_eq, ↓x_aload_3r, ↓x_aload_3n, ↓x_aload_3q, ft_12_515, ft_12_304, ft_12_310, ft_12_307, mt_12_472, ↓x_cv4, ↓x_iload_4, ft_12_320, ft_12_475, ↓x_if_ne, ft_12_476, ft_12_516, ↓x_icmp_ne, ↓x_goto, ↓x_iinc_5_1, Int.reduceAdd, Nat.reduceAdd, true_and, and_true, true_or, or_true, false_or, or_false, reduceCtorEq, false_and, and_false, and_self, or_self, false_implies, true_implies, not_true_eq_false, not_false_eq_true, implies_true, Option.some.injEq, i_add, i_a1, i_m8, i_m5, i_m401, i_40, i_80, i_r40, i_s1, i_am1, i_sub, i_lt, i_le, i_eq, i_m1, il_le_0, il_ge_0, il_lt_0, il_gt_0, il_eq_0, il_le_1, il_ge_1, il_lt_1, il_gt_1, il_eq_1, il_le_2, il_ge_2, il_lt_2, il_gt_2, il_eq_2, il_le_3, il_ge_3, il_lt_3, il_gt_3, il_eq_3, il_le_4, il_ge_4, il_lt_4, il_gt_4, il_eq_4, il_le_5, il_ge_5, il_lt_5, il_gt_5, il_eq_5, il_le_6, il_ge_6, il_lt_6, il_gt_6, il_eq_6, il_le_7, il_ge_7, il_lt_7, il_gt_7, il_eq_7, il_le_8, il_ge_8, il_lt_8, il_gt_8, il_eq_8, il_le_12, il_ge_12, il_lt_12, il_gt_12, il_eq_12, il_le_16, il_ge_16, il_lt_16, il_gt_16, il_eq_16, il_le_20, il_ge_20, il_lt_20, il_gt_20, il_eq_20, il_le_21, il_ge_21, il_lt_21, il_gt_21, il_eq_21, il_le_40, il_ge_40, il_lt_40, il_gt_40, il_eq_40, il_le_100, il_ge_100, il_lt_100, il_gt_100, il_eq_100, il_le_120, il_ge_120, il_lt_120, il_gt_120, il_eq_120, il_le_200, il_ge_200, il_lt_200, il_gt_200, il_eq_200, il_le_400, il_ge_400, il_lt_400, il_gt_400, il_eq_400, il_le_700, il_ge_700, il_lt_700, il_gt_700, il_eq_700, kg2, kv2_11, kg12, kv12_7, ki4, ki7, kg7, kv7_2, kv7_3, kv7_4, kv7_5, ki8, kg8, kv8_2, kg5, kv5_1, kv5_0, kv7_6, up_s, up_n]
    refine h_isActOf hg tx td ?_
    rw [act_frm hf]
    simp (decide := true) (disch := first | assumption | omega) only [↓u147_0, ↓u147_6, ↓u147_113, ↓x_nil, ↓x_om, ↓x_aload_1r, ↓x_aload_1n, ↓x_aload_1q, ↓x_ifnonnull_n, ↓x_ifnonnull_r, ↓x_ifnonnull_q, ↓x_iconst_0, ↓x_ireturn, rt147, ↓x_iconst_1, ↓x_istore_4, x_cl_i, x_cl_r, x_cl_n, x_cl_q, x_cl_0, x_cl_l, ↓x_getfield, ft_12_381, ↓x_istore_5, ↓x_iload_5, ↓x_iload_2, ↓x_icmp_ge, ↓x_aload_0r, ↓x_aload_0n, ↓x_aload_0q, ft_12_44, ↓x_invokevirtual, mt_12_278, x_ps0, x_ps1, x_l40, x_l41, x_l42, x_l43, x_l44, ↓x_cv1, ↓x_astore_6r, ↓x_astore_6n, ↓x_astore_6q, ↓x_aload_6r, ↓x_aload_6n, ↓x_aload_6q, ↓x_ifnull_n, ↓x_ifnull_r, ↓x_ifnull_q, mt_12_397, ↓x_if_eq, ↓x_aload_3r, ↓x_aload_3n, ↓x_aload_3q, ft_12_515, ft_12_304, ft_12_310, ft_12_307, mt_12_472, ↓x_cv4, ↓x_iload_4, ft_12_320, ft_12_475, ↓x_if_ne, ft_12_476, ft_12_516, ↓x_icmp_ne, ↓x_goto, ↓x_iinc_5_1, Int.reduceAdd, Nat.reduceAdd, true_and, and_true, true_or, or_true, false_or, or_false, reduceCtorEq, false_and, and_false, and_self, or_self, false_implies, true_implies, not_true_eq_false, not_false_eq_true, implies_true, Option.some.injEq, i_add, i_a1, i_m8, i_m5, i_m401, i_40, i_80, i_r40, i_s1, i_am1, i_sub, i_lt, i_le, i_eq, i_m1, il_le_0, il_ge_0, il_lt_0, il_gt_0, il_eq_0, il_le_1, il_ge_1, il_lt_1, il_gt_1, il_eq_1, il_le_2, il_ge_2, il_lt_2, il_gt_2, il_eq_2, il_le_3, il_ge_3, il_lt_3, il_gt_3, il_eq_3, il_le_4, il_ge_4, il_lt_4, il_gt_4, il_eq_4, il_le_5, il_ge_5, il_lt_5, il_gt_5, il_eq_5, il_le_6, il_ge_6, il_lt_6, il_gt_6, il_eq_6, il_le_7, il_ge_7, il_lt_7, il_gt_7, il_eq_7, il_le_8, il_ge_8, il_lt_8, il_gt_8, il_eq_8, il_le_12, il_ge_12, il_lt_12, il_gt_12, il_eq_12, il_le_16, il_ge_16, il_lt_16, il_gt_16, il_eq_16, il_le_20, il_ge_20, il_lt_20, il_gt_20, il_eq_20, il_le_21, il_ge_21, il_lt_21, il_gt_21, il_eq_21, il_le_40, il_ge_40, il_lt_40, il_gt_40, il_eq_40, il_le_100, il_ge_100, il_lt_100, il_gt_100, il_eq_100, il_le_120, il_ge_120, il_lt_120, il_gt_120, il_eq_120, il_le_200, il_ge_200, il_lt_200, il_gt_200, il_eq_200, il_le_400, il_ge_400, il_lt_400, il_gt_400, il_eq_400, il_le_700, il_ge_700, il_lt_700, il_gt_700, il_eq_700, kg2, kv2_11, kg12, kv12_7, ki4, ki7, kg7, kv7_2, kv7_3, kv7_4, kv7_5, ki8, kg8, kv8_2, kg5, kv5_1, kv5_0, kv7_6, up_s, up_n]
    refine c_bool (fun z => ?_) (fun z => ?_)
    · obtain ⟨j, jm, je⟩ := hact.mp z
      have hd : ∃ L', L = j :: L' := by
        cases L with
        | nil => cases jm
        | cons y L' =>
          rcases List.mem_cons.mp jm with e | e
          · exact ⟨L', by rw [e]⟩
          · have h1 := (List.pairwise_cons.mp hp).1 j e
            have h2 := (hL y (List.mem_cons_self ..)).1
            omega
      obtain ⟨L', rfl⟩ := hd
      obtain ⟨⟨o, kk, ho, hk, eo, ek, har, hb18⟩, hrow⟩ := hr j (List.mem_cons_self ..)
      obtain ⟨r1, r2, r3, r4, r5⟩ := hrow x (by rw [je]; exact hx')
      have g1 : P.1 142 x = nI o := by rw [frS_f hf (by decide), r1]; exact eo
      have g2 : P.1 143 x = nI kk := by rw [frS_f hf (by decide), r2]; exact ek
      have g3 : P.1 144 x = A0 37 j := by rw [frS_f hf (by decide)]; exact r3
      have g4 : P.1 145 x = A0 38 j := by rw [frS_f hf (by decide)]; exact r4
      have hobS : R_ob n S.2 := by unfold R_ob at hob ⊢; rw [hA0 4 (by decide), hA0 7 (by decide), hA0 5 (by decide)]; exact hob
      obtain ⟨z8, zd, hz8, ez, _⟩ := hobS.2 o ho
      have perf := perf_ok (S := S) (k := kk) (a := A0 37 j) (b := A0 38 j) hS hs ap hobS hx ho hk (Or.inl hit) har (fun _ => hcs)
      have eW : y_work (x0 + o) kk (A0 37 j) (A0 38 j) S = y_wk x0 j S := by
        unfold y_wk
        rw [hA0 35 (by decide), hA0 36 (by decide), hA0 37 (by decide), hA0 38 (by decide), eo, ek, i_cl (by omega), i_cl (by omega)]
      rw [eW] at perf
      obtain ⟨q1, q2, q3, q4, q5, q6, q7, q8⟩ := perf
      have ts : Z.1 s = 9 := hs.1
      have tr := (w.shf ts).2.1
      simp (decide := true) (disch := first | assumption | omega) only [↓u147_0, ↓u147_6, ↓u147_113, ↓x_nil, ↓x_om, ↓x_aload_1r, ↓x_aload_1n, ↓x_aload_1q, ↓x_ifnonnull_n, ↓x_ifnonnull_r, ↓x_ifnonnull_q, ↓x_iconst_0, ↓x_ireturn, rt147, ↓x_iconst_1, ↓x_istore_4, x_cl_i, x_cl_r, x_cl_n, x_cl_q, x_cl_0, x_cl_l, ↓x_getfield, ft_12_381, ↓x_istore_5, ↓x_iload_5, ↓x_iload_2, ↓x_icmp_ge, ↓x_aload_0r, ↓x_aload_0n, ↓x_aload_0q, ft_12_44, ↓x_invokevirtual, mt_12_278, x_ps0, x_ps1, x_l40, x_l41, x_l42, x_l43, x_l44, ↓x_cv1, ↓x_astore_6r, ↓x_astore_6n, ↓x_astore_6q, ↓x_aload_6r, ↓x_aload_6n, ↓x_aload_6q, ↓x_ifnull_n, ↓x_ifnull_r, ↓x_ifnull_q, mt_12_397, ↓x_if_eq, ↓x_aload_3r, ↓x_aload_3n, ↓x_aload_3q, ft_12_515, ft_12_304, ft_12_310, ft_12_307, mt_12_472, ↓x_cv4, ↓x_iload_4, ft_12_320, ft_12_475, ↓x_if_ne, ft_12_476, ft_12_516, ↓x_icmp_ne, ↓x_goto, ↓x_iinc_5_1, Int.reduceAdd, Nat.reduceAdd, true_and, and_true, true_or, or_true, false_or, or_false, reduceCtorEq, false_and, and_false, and_self, or_self, false_implies, true_implies, not_true_eq_false, not_false_eq_true, implies_true, Option.some.injEq, g1, g2, g3, g4, kg2, kv2_11, kg12, kv12_7, ki4, ki7, kg7, kv7_2, kv7_3, kv7_4, kv7_5, ki8, kg8, kv8_2, kg5, kv5_1, kv5_0, kv7_6, up_s, up_n]
      refine h_perform2 hg w hs ho hz8 ((hS o ho).1.trans ez) (fun z4 => ?_) (fun z5 hh n7 n21 => ?_) ?_
      · obtain ⟨v, v1, v2, _⟩ := (hS o ho).2.2.2.1.1 (by rw [ez, z4]; rfl)
        exact ⟨v, v1, v2⟩
      · rw [Bool.and_eq_true, z5] at hh
        refine har.2.1 ?_ ?_
        all_goals
          have : kk = 0 ∨ kk = 1 ∨ kk = 2 ∨ kk = 3 ∨ kk = 4 ∨ kk = 5 ∨ kk = 6 ∨ kk = 7 ∨ kk = 8 ∨ kk = 9 ∨ kk = 10 ∨ kk = 11 ∨ kk = 12 ∨ kk = 13 ∨ kk = 14 ∨ kk = 15 ∨ kk = 16 ∨ kk = 17 ∨ kk = 18 ∨ kk = 19 ∨ kk = 20 ∨ kk = 21 := by omega
          rcases this with rfl | rfl | rfl | rfl | rfl | rfl | rfl | rfl | rfl | rfl | rfl | rfl | rfl | rfl | rfl | rfl | rfl | rfl | rfl | rfl | rfl | rfl <;> first | omega | exact absurd hh.2 (by decide) | exact absurd rfl n7 | exact absurd rfl n21
      generalize hPp : k_perf P U s n o (nI kk) (A0 37 j) (A0 38 j) = Pp at *
      obtain ⟨s1, s2⟩ := hst j S
      have hf2 : fr_S U s n P0 Pp := hf.tr q6
      have g5 : Pp.1 146 x = A0 39 j := by rw [frS_f hf2 (by decide)]; exact r5
      have hs2 : k_Sh Z Pp U s n := hs.keep (frS_f q6 (by decide))
      have zf := (z_frW (x := x0 + (S.2 35 j).toNatClampNeg) (k := (S.2 36 j).toNatClampNeg) (a := S.2 37 j) (b := S.2 38 j) (S := S))
      have hS2 : R_sh Pp U s n (st j S).2 x0 := q1.keep (fun _ _ _ _ => rfl) (fun _ _ => rfl) (s2 _ (by decide)) (s2 _ (by decide)) (s2 _ (by decide)) (fun _ _ => ⟨by rw [s2 _ (by decide)], by rw [s2 _ (by decide)], by rw [s2 _ (by decide)]⟩) (fun _ _ _ => by rw [s2 _ (by decide)])
      have hA2 : ∀ f ∈ fp_fx, (st j S).2 f = A0 f := fun f hf' => by
        rw [s2 f (by revert f; decide), ← hA0 f hf']
        exact zf.2.1 f (by revert f; decide) (by revert f; decide) (by revert f; decide) (by revert f; decide) (by revert f; decide)
      have hit2 : (st j S).1 29 = 0 := by rw [s1]; exact (zf.1 _ (by decide) (by decide) (by decide) (by decide) (by decide)).trans hit
      have hcs2 : (st j S).1 32 = nI n := by rw [s1]; exact (zf.1 _ (by decide) (by decide) (by decide) (by decide) (by decide)).trans hcs
      have htr2 : 0 ≤ (st j S).1 30 := by rw [s1]; exact zf.2.2 htr
      have hsz2 : w_sz (st j S).2 := fun x hx => by
        rw [s2 _ (by decide)]
        exact (z_szW (x := x0 + (S.2 35 j).toNatClampNeg) (k := (S.2 36 j).toNatClampNeg) (a := S.2 37 j) (b := S.2 38 j) (S := S) x hx (hsz x hx)).1
      have hel : elS x0 n S.2 (st j S).2 := ⟨fun i hi => by rw [s2 _ (by decide), s2 _ (by decide), s2 _ (by decide)]; exact q7.2.1 i hi, fun i hi => by rw [s2 _ (by decide)]; exact q7.2.2 i hi⟩
      have hwk : w_wk x0 j S := by
        refine ⟨o, kk, by omega, hk, by rw [hA0 35 (by decide)]; exact eo, by rw [hA0 36 (by decide)]; exact ek, htr, hsz, fun z1 z2 => by rw [hA0 37 (by decide)]; exact har.1 z1 z2, fun z1 z2 => by rw [hA0 37 (by decide)]; exact har.2.1 z1 z2, fun _ s7 => ?_, fun z => by rw [hA0 38 (by decide)]; exact hb18 z, fun _ => ⟨n, n40, hcs, par_of hobS⟩⟩
        rcases (hS o ho).2.2.2.2 s7 with e | ⟨p, p1, p2⟩
        · exact Or.inl e
        · exact Or.inr ⟨p, by omega, p2⟩
      have go : ∀ b' : Bool, (b && (decide ((y_wk x0 j S).2.1 25 = 0) && decide ((y_wk x0 j S).1 = S.2 39 j))) = b' → e_Sm g 147 12 cd147 Ψ 105 [some (.ref own), some (.ref d), some (.int (nI ahead)), some (.ref s), some (.int (b_v b)), some (.int (nI i)), some (.ref x)] [.int (b_v b')] (K_H Z Pp U (B, r)) := fun b' eb => by
        rw [u147_105]
        simp (decide := true) (disch := first | assumption | omega) only [↓u147_0, ↓u147_6, ↓u147_113, ↓x_nil, ↓x_om, ↓x_aload_1r, ↓x_aload_1n, ↓x_aload_1q, ↓x_ifnonnull_n, ↓x_ifnonnull_r, ↓x_ifnonnull_q, ↓x_iconst_0, ↓x_ireturn, rt147, ↓x_iconst_1, ↓x_istore_4, x_cl_i, x_cl_r, x_cl_n, x_cl_q, x_cl_0, x_cl_l, ↓x_getfield, ft_12_381, ↓x_istore_5, ↓x_iload_5, ↓x_iload_2, ↓x_icmp_ge, ↓x_aload_0r, ↓x_aload_0n, ↓x_aload_0q, ft_12_44, ↓x_invokevirtual, mt_12_278, x_ps0, x_ps1, x_l40, x_l41, x_l42, x_l43, x_l44, ↓x_cv1, ↓x_astore_6r, ↓x_astore_6n, ↓x_astore_6q, ↓x_aload_6r, ↓x_aload_6n, ↓x_aload_6q, ↓x_ifnull_n, ↓x_ifnull_r, ↓x_ifnull_q, mt_12_397, ↓x_if_eq, ↓x_aload_3r, ↓x_aload_3n, ↓x_aload_3q, ft_12_515, ft_12_304, ft_12_310, ft_12_307, mt_12_472, ↓x_cv4, ↓x_iload_4, ft_12_320, ft_12_475, ↓x_if_ne, ft_12_476, ft_12_516, ↓x_icmp_ne, ↓x_goto, ↓x_iinc_5_1, Int.reduceAdd, Nat.reduceAdd, true_and, and_true, true_or, or_true, false_or, or_false, reduceCtorEq, false_and, and_false, and_self, or_self, false_implies, true_implies, not_true_eq_false, not_false_eq_true, implies_true, Option.some.injEq, i_add, i_a1, i_m8, i_m5, i_m401, i_40, i_80, i_r40, i_s1, i_am1, i_sub, i_lt, i_le, i_eq, i_m1, il_le_0, il_ge_0, il_lt_0, il_gt_0, il_eq_0, il_le_1, il_ge_1, il_lt_1, il_gt_1, il_eq_1, il_le_2, il_ge_2, il_lt_2, il_gt_2, il_eq_2, il_le_3, il_ge_3, il_lt_3, il_gt_3, il_eq_3, il_le_4, il_ge_4, il_lt_4, il_gt_4, il_eq_4, il_le_5, il_ge_5, il_lt_5, il_gt_5, il_eq_5, il_le_6, il_ge_6, il_lt_6, il_gt_6, il_eq_6, il_le_7, il_ge_7, il_lt_7, il_gt_7, il_eq_7, il_le_8, il_ge_8, il_lt_8, il_gt_8, il_eq_8, il_le_12, il_ge_12, il_lt_12, il_gt_12, il_eq_12, il_le_16, il_ge_16, il_lt_16, il_gt_16, il_eq_16, il_le_20, il_ge_20, il_lt_20, il_gt_20, il_eq_20, il_le_21, il_ge_21, il_lt_21, il_gt_21, il_eq_21, il_le_40, il_ge_40, il_lt_40, il_gt_40, il_eq_40, il_le_100, il_ge_100, il_lt_100, il_gt_100, il_eq_100, il_le_120, il_ge_120, il_lt_120, il_gt_120, il_eq_120, il_le_200, il_ge_200, il_lt_200, il_gt_200, il_eq_200, il_le_400, il_ge_400, il_lt_400, il_gt_400, il_eq_400, il_le_700, il_ge_700, il_lt_700, il_gt_700, il_eq_700, kg2, kv2_11, kg12, kv12_7, ki4, ki7, kg7, kv7_2, kv7_3, kv7_4, kv7_5, ki8, kg8, kv8_2, kg5, kv5_1, kv5_0, kv7_6, up_s, up_n]
        rw [u147_107]
        simp (decide := true) (disch := first | assumption | omega) only [↓u147_0, ↓u147_6, ↓u147_113, ↓x_nil, ↓x_om, ↓x_aload_1r, ↓x_aload_1n, ↓x_aload_1q, ↓x_ifnonnull_n, ↓x_ifnonnull_r, ↓x_ifnonnull_q, ↓x_iconst_0, ↓x_ireturn, rt147, ↓x_iconst_1, ↓x_istore_4, x_cl_i, x_cl_r, x_cl_n, x_cl_q, x_cl_0, x_cl_l, ↓x_getfield, ft_12_381, ↓x_istore_5, ↓x_iload_5, ↓x_iload_2, ↓x_icmp_ge, ↓x_aload_0r, ↓x_aload_0n, ↓x_aload_0q, ft_12_44, ↓x_invokevirtual, mt_12_278, x_ps0, x_ps1, x_l40, x_l41, x_l42, x_l43, x_l44, ↓x_cv1, ↓x_astore_6r, ↓x_astore_6n, ↓x_astore_6q, ↓x_aload_6r, ↓x_aload_6n, ↓x_aload_6q, ↓x_ifnull_n, ↓x_ifnull_r, ↓x_ifnull_q, mt_12_397, ↓x_if_eq, ↓x_aload_3r, ↓x_aload_3n, ↓x_aload_3q, ft_12_515, ft_12_304, ft_12_310, ft_12_307, mt_12_472, ↓x_cv4, ↓x_iload_4, ft_12_320, ft_12_475, ↓x_if_ne, ft_12_476, ft_12_516, ↓x_icmp_ne, ↓x_goto, ↓x_iinc_5_1, Int.reduceAdd, Nat.reduceAdd, true_and, and_true, true_or, or_true, false_or, or_false, reduceCtorEq, false_and, and_false, and_self, or_self, false_implies, true_implies, not_true_eq_false, not_false_eq_true, implies_true, Option.some.injEq, i_add, i_a1, i_m8, i_m5, i_m401, i_40, i_80, i_r40, i_s1, i_am1, i_sub, i_lt, i_le, i_eq, i_m1, il_le_0, il_ge_0, il_lt_0, il_gt_0, il_eq_0, il_le_1, il_ge_1, il_lt_1, il_gt_1, il_eq_1, il_le_2, il_ge_2, il_lt_2, il_gt_2, il_eq_2, il_le_3, il_ge_3, il_lt_3, il_gt_3, il_eq_3, il_le_4, il_ge_4, il_lt_4, il_gt_4, il_eq_4, il_le_5, il_ge_5, il_lt_5, il_gt_5, il_eq_5, il_le_6, il_ge_6, il_lt_6, il_gt_6, il_eq_6, il_le_7, il_ge_7, il_lt_7, il_gt_7, il_eq_7, il_le_8, il_ge_8, il_lt_8, il_gt_8, il_eq_8, il_le_12, il_ge_12, il_lt_12, il_gt_12, il_eq_12, il_le_16, il_ge_16, il_lt_16, il_gt_16, il_eq_16, il_le_20, il_ge_20, il_lt_20, il_gt_20, il_eq_20, il_le_21, il_ge_21, il_lt_21, il_gt_21, il_eq_21, il_le_40, il_ge_40, il_lt_40, il_gt_40, il_eq_40, il_le_100, il_ge_100, il_lt_100, il_gt_100, il_eq_100, il_le_120, il_ge_120, il_lt_120, il_gt_120, il_eq_120, il_le_200, il_ge_200, il_lt_200, il_gt_200, il_eq_200, il_le_400, il_ge_400, il_lt_400, il_gt_400, il_eq_400, il_le_700, il_ge_700, il_lt_700, il_gt_700, il_eq_700, kg2, kv2_11, kg12, kv12_7, ki4, ki7, kg7, kv7_2, kv7_3, kv7_4, kv7_5, ki8, kg8, kv8_2, kg5, kv5_1, kv5_0, kv7_6, up_s, up_n]
        refine ih (i + 1) L' b' Pp (st j S) _ (by omega) (List.pairwise_cons.mp hp).2 (fun y hy => ?_) (fun ρ x2 h1 h2 h3 => ?_) (fun y hy => hr y (List.mem_cons_of_mem _ hy)) hs2 hS2 hf2 hA2 hit2 hcs2 htr2 hsz2 ?_
        · have h1 := (List.pairwise_cons.mp hp).1 y hy
          have h2 := (hL y (List.mem_cons_of_mem _ hy)).2
          exact ⟨by omega, h2⟩
        · rw [hρ ρ x2 (by omega) h2 h3]
          constructor
          · rintro ⟨y, y1, y2⟩
            rcases List.mem_cons.mp y1 with e | e
            · rw [e, je] at y2; omega
            · exact ⟨y, e, y2⟩
          · rintro ⟨y, y1, y2⟩
            exact ⟨y, List.mem_cons_of_mem _ y1, y2⟩
        · intro hwl P' h1 h2 h3 h4 h5
          rw [Rd, eb] at q
          exact q ⟨hwk, hwl⟩ P' h1 h2 h3 (hel.tr h4) h5
      have ef : Pp.1 101 (s + 2) = (y_wk x0 j S).2.1 25 := q3
      have e104 : (b && (decide ((y_wk x0 j S).2.1 25 = 0) && decide ((y_wk x0 j S).1 = S.2 39 j))) = false → e_Sm g 147 12 cd147 Ψ 104 [some (.ref own), some (.ref d), some (.int (nI ahead)), some (.ref s), some (.int (b_v b)), some (.int (nI i)), some (.ref x)] [] (K_H Z Pp U (B, r)) := fun h => by
        rw [u147_104]
        simp (decide := true) (disch := first | assumption | omega) only [↓u147_0, ↓u147_6, ↓u147_113, ↓x_nil, ↓x_om, ↓x_aload_1r, ↓x_aload_1n, ↓x_aload_1q, ↓x_ifnonnull_n, ↓x_ifnonnull_r, ↓x_ifnonnull_q, ↓x_iconst_0, ↓x_ireturn, rt147, ↓x_iconst_1, ↓x_istore_4, x_cl_i, x_cl_r, x_cl_n, x_cl_q, x_cl_0, x_cl_l, ↓x_getfield, ft_12_381, ↓x_istore_5, ↓x_iload_5, ↓x_iload_2, ↓x_icmp_ge, ↓x_aload_0r, ↓x_aload_0n, ↓x_aload_0q, ft_12_44, ↓x_invokevirtual, mt_12_278, x_ps0, x_ps1, x_l40, x_l41, x_l42, x_l43, x_l44, ↓x_cv1, ↓x_astore_6r, ↓x_astore_6n, ↓x_astore_6q, ↓x_aload_6r, ↓x_aload_6n, ↓x_aload_6q, ↓x_ifnull_n, ↓x_ifnull_r, ↓x_ifnull_q, mt_12_397, ↓x_if_eq, ↓x_aload_3r, ↓x_aload_3n, ↓x_aload_3q, ft_12_515, ft_12_304, ft_12_310, ft_12_307, mt_12_472, ↓x_cv4, ↓x_iload_4, ft_12_320, ft_12_475, ↓x_if_ne, ft_12_476, ft_12_516, ↓x_icmp_ne, ↓x_goto, ↓x_iinc_5_1, Int.reduceAdd, Nat.reduceAdd, true_and, and_true, true_or, or_true, false_or, or_false, reduceCtorEq, false_and, and_false, and_self, or_self, false_implies, true_implies, not_true_eq_false, not_false_eq_true, implies_true, Option.some.injEq, i_add, i_a1, i_m8, i_m5, i_m401, i_40, i_80, i_r40, i_s1, i_am1, i_sub, i_lt, i_le, i_eq, i_m1, il_le_0, il_ge_0, il_lt_0, il_gt_0, il_eq_0, il_le_1, il_ge_1, il_lt_1, il_gt_1, il_eq_1, il_le_2, il_ge_2, il_lt_2, il_gt_2, il_eq_2, il_le_3, il_ge_3, il_lt_3, il_gt_3, il_eq_3, il_le_4, il_ge_4, il_lt_4, il_gt_4, il_eq_4, il_le_5, il_ge_5, il_lt_5, il_gt_5, il_eq_5, il_le_6, il_ge_6, il_lt_6, il_gt_6, il_eq_6, il_le_7, il_ge_7, il_lt_7, il_gt_7, il_eq_7, il_le_8, il_ge_8, il_lt_8, il_gt_8, il_eq_8, il_le_12, il_ge_12, il_lt_12, il_gt_12, il_eq_12, il_le_16, il_ge_16, il_lt_16, il_gt_16, il_eq_16, il_le_20, il_ge_20, il_lt_20, il_gt_20, il_eq_20, il_le_21, il_ge_21, il_lt_21, il_gt_21, il_eq_21, il_le_40, il_ge_40, il_lt_40, il_gt_40, il_eq_40, il_le_100, il_ge_100, il_lt_100, il_gt_100, il_eq_100, il_le_120, il_ge_120, il_lt_120, il_gt_120, il_eq_120, il_le_200, il_ge_200, il_lt_200, il_gt_200, il_eq_200, il_le_400, il_ge_400, il_lt_400, il_gt_400, il_eq_400, il_le_700, il_ge_700, il_lt_700, il_gt_700, il_eq_700, kg2, kv2_11, kg12, kv12_7, ki4, ki7, kg7, kv7_2, kv7_3, kv7_4, kv7_5, ki8, kg8, kv8_2, kg5, kv5_1, kv5_0, kv7_6, up_s, up_n]
        exact go false h
      simp (decide := true) (disch := first | assumption | omega) only [↓u147_0, ↓u147_6, ↓u147_113, ↓x_nil, ↓x_om, ↓x_aload_1r, ↓x_aload_1n, ↓x_aload_1q, ↓x_ifnonnull_n, ↓x_ifnonnull_r, ↓x_ifnonnull_q, ↓x_iconst_0, ↓x_ireturn, rt147, ↓x_iconst_1, ↓x_istore_4, x_cl_i, x_cl_r, x_cl_n, x_cl_q, x_cl_0, x_cl_l, ↓x_getfield, ft_12_381, ↓x_istore_5, ↓x_iload_5, ↓x_iload_2, ↓x_icmp_ge, ↓x_aload_0r, ↓x_aload_0n, ↓x_aload_0q, ft_12_44, ↓x_invokevirtual, mt_12_278, x_ps0, x_ps1, x_l40, x_l41, x_l42, x_l43, x_l44, ↓x_cv1, ↓x_astore_6r, ↓x_astore_6n, ↓x_astore_6q, ↓x_aload_6r, ↓x_aload_6n, ↓x_aload_6q, ↓x_ifnull_n, ↓x_ifnull_r, ↓x_ifnull_q, mt_12_397, ↓x_if_eq, ↓x_aload_3r, ↓x_aload_3n, ↓x_aload_3q, ft_12_515, ft_12_304, ft_12_310, ft_12_307, mt_12_472, ↓x_cv4, ↓x_iload_4, ft_12_320, ft_12_475, ↓x_if_ne, ft_12_476, ft_12_516, ↓x_icmp_ne, ↓x_goto, ↓x_iinc_5_1, Int.reduceAdd, Nat.reduceAdd, true_and, and_true, true_or, or_true, false_or, or_false, reduceCtorEq, false_and, and_false, and_self, or_self, false_implies, true_implies, not_true_eq_false, not_false_eq_true, implies_true, Option.some.injEq, ef, g5, kg2, kv2_11, kg12, kv12_7, ki4, ki7, kg7, kv7_2, kv7_3, kv7_4, kv7_5, ki8, kg8, kv8_2, kg5, kv5_1, kv5_0, kv7_6, up_s, up_n]
      refine c_bool (fun hb => ?_) (fun hb => e104 (by rw [hb]; rfl))
      refine ⟨fun c0 => ?_, fun c0 => e104 (by rw [decide_eq_false c0, Bool.false_and, Bool.and_false])⟩
      have ean : Pp.1 100 (s + 2) = (y_wk x0 j S).1 := q4 c0
      rw [ean]
      refine ⟨fun ca => ?_, fun ca => e104 (by rw [show decide ((y_wk x0 j S).1 = S.2 39 j) = false from decide_eq_false (by rw [hA0 39 (by decide)]; exact ca), Bool.and_false, Bool.and_false])⟩
      exact go true (by rw [hb, decide_eq_true c0, decide_eq_true (ca.trans (by rw [hA0 39 (by decide)]))]; rfl)
    · -- another row
      rw [u147_107]
      simp (decide := true) (disch := first | assumption | omega) only [↓u147_0, ↓u147_6, ↓u147_113, ↓x_nil, ↓x_om, ↓x_aload_1r, ↓x_aload_1n, ↓x_aload_1q, ↓x_ifnonnull_n, ↓x_ifnonnull_r, ↓x_ifnonnull_q, ↓x_iconst_0, ↓x_ireturn, rt147, ↓x_iconst_1, ↓x_istore_4, x_cl_i, x_cl_r, x_cl_n, x_cl_q, x_cl_0, x_cl_l, ↓x_getfield, ft_12_381, ↓x_istore_5, ↓x_iload_5, ↓x_iload_2, ↓x_icmp_ge, ↓x_aload_0r, ↓x_aload_0n, ↓x_aload_0q, ft_12_44, ↓x_invokevirtual, mt_12_278, x_ps0, x_ps1, x_l40, x_l41, x_l42, x_l43, x_l44, ↓x_cv1, ↓x_astore_6r, ↓x_astore_6n, ↓x_astore_6q, ↓x_aload_6r, ↓x_aload_6n, ↓x_aload_6q, ↓x_ifnull_n, ↓x_ifnull_r, ↓x_ifnull_q, mt_12_397, ↓x_if_eq, ↓x_aload_3r, ↓x_aload_3n, ↓x_aload_3q, ft_12_515, ft_12_304, ft_12_310, ft_12_307, mt_12_472, ↓x_cv4, ↓x_iload_4, ft_12_320, ft_12_475, ↓x_if_ne, ft_12_476, ft_12_516, ↓x_icmp_ne, ↓x_goto, ↓x_iinc_5_1, Int.reduceAdd, Nat.reduceAdd, true_and, and_true, true_or, or_true, false_or, or_false, reduceCtorEq, false_and, and_false, and_self, or_self, false_implies, true_implies, not_true_eq_false, not_false_eq_true, implies_true, Option.some.injEq, i_add, i_a1, i_m8, i_m5, i_m401, i_40, i_80, i_r40, i_s1, i_am1, i_sub, i_lt, i_le, i_eq, i_m1, il_le_0, il_ge_0, il_lt_0, il_gt_0, il_eq_0, il_le_1, il_ge_1, il_lt_1, il_gt_1, il_eq_1, il_le_2, il_ge_2, il_lt_2, il_gt_2, il_eq_2, il_le_3, il_ge_3, il_lt_3, il_gt_3, il_eq_3, il_le_4, il_ge_4, il_lt_4, il_gt_4, il_eq_4, il_le_5, il_ge_5, il_lt_5, il_gt_5, il_eq_5, il_le_6, il_ge_6, il_lt_6, il_gt_6, il_eq_6, il_le_7, il_ge_7, il_lt_7, il_gt_7, il_eq_7, il_le_8, il_ge_8, il_lt_8, il_gt_8, il_eq_8, il_le_12, il_ge_12, il_lt_12, il_gt_12, il_eq_12, il_le_16, il_ge_16, il_lt_16, il_gt_16, il_eq_16, il_le_20, il_ge_20, il_lt_20, il_gt_20, il_eq_20, il_le_21, il_ge_21, il_lt_21, il_gt_21, il_eq_21, il_le_40, il_ge_40, il_lt_40, il_gt_40, il_eq_40, il_le_100, il_ge_100, il_lt_100, il_gt_100, il_eq_100, il_le_120, il_ge_120, il_lt_120, il_gt_120, il_eq_120, il_le_200, il_ge_200, il_lt_200, il_gt_200, il_eq_200, il_le_400, il_ge_400, il_lt_400, il_gt_400, il_eq_400, il_le_700, il_ge_700, il_lt_700, il_gt_700, il_eq_700, kg2, kv2_11, kg12, kv12_7, ki4, ki7, kg7, kv7_2, kv7_3, kv7_4, kv7_5, ki8, kg8, kv8_2, kg5, kv5_1, kv5_0, kv7_6, up_s, up_n]
      have none : ∀ y ∈ L, ar A0 y ≠ i := fun y hy e => by
        have := hact.mpr ⟨y, hy, e⟩
        rw [z] at this; cases this
      refine ih (i + 1) L b P S _ (by omega) hp (fun y hy => ?_) (fun ρ x2 h1 h2 h3 => hρ ρ x2 (by omega) h2 h3) hr hs hS hf hA0 hit hcs htr hsz q
      have h1 := hL y hy
      have h2 := none y hy
      exact ⟨by omega, h1.2⟩
end UF
