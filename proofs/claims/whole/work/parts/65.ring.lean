/-! the ring -/
section KR
variable {g : e_G} {Ψ : e_Q} {Z : k_Z} {P : k_P} {U : k_U} {h : e_Hp}
def k_fgt (P : k_P) (r : Nat) : k_P := k_wr (k_wr P 125 r 0) 126 r (-9)
theorem h_forget (hg : e_GK g) {r : Nat} (t : Z.1 r = 7) (q : Ψ none (K_H Z (k_fgt P r) U h)) : e_Sc g 28 [.ref r] (K_H Z P U h) Ψ := by
  refine e_call (cd := cd28) hg ok28 (by rw [mL28]; exact Nat.le_of_ble_eq_true rfl) ?_
  rw [mL28]
  simp only [x_ini, x_inr, x_inn, x_inq, x_inl, x_in0, x_rp0, x_rps, Nat.reduceSub]
  simp (decide := true) (disch := first | assumption | omega) only [↓u28_0, ↓x_nil, ↓x_om, ↓x_aload_0r, ↓x_aload_0n, ↓x_aload_0q, ↓x_iconst_0, ↓x_putfield, ft_6_31, x_fit0, x_fit1, x_fit2r, x_fit2n, x_fit2q, ↓x_bipush_m9, ft_6_27, ↓x_return, Int.reduceAdd, Nat.reduceAdd, true_and, and_true, true_or, or_true, false_or, or_false, reduceCtorEq, false_and, and_false, and_self, or_self, false_implies, true_implies, not_true_eq_false, not_false_eq_true, implies_true, Option.some.injEq, kg6, kv6_5, kw6_5, k_rs, k_rn, k_r2, k_c2, kv6_6, kw6_6, up_s, up_n]
  exact q
def k_mbr (P : k_P) (r : Nat) (i : Int32) : Int32 := if i = -1 then P.1 126 r else if 0 ≤ i ∧ i < P.1 125 r ∧ i < 12 then P.2 (r + 5) i.toNatClampNeg else -9
theorem h_member (hg : e_GK g) {r : Nat} {i : Int32} (t : Z.1 r = 7) (t5 : Z.1 (r + 5) = 112) (q : Ψ (some (.int (k_mbr P r i))) (K_H Z P U h)) : e_Sc g 29 [.ref r, .int i] (K_H Z P U h) Ψ := by
  refine e_call (cd := cd29) hg ok29 (by rw [mL29]; exact Nat.le_of_ble_eq_true rfl) ?_
  rw [mL29]
  simp only [x_ini, x_inr, x_inn, x_inq, x_inl, x_in0, x_rp0, x_rps, Nat.reduceSub]
  simp (decide := true) (disch := first | assumption | omega) only [↓u29_0, ↓u29_10, ↓u29_31, ↓u29_36, ↓u29_42, ↓x_nil, ↓x_om, ↓x_iload_1, ↓x_iconst_m1, ↓x_icmp_ne, ↓x_aload_0r, ↓x_aload_0n, ↓x_aload_0q, ↓x_getfield, ft_6_27, ↓x_ireturn, rt29, ↓x_if_lt, ft_6_31, ↓x_icmp_ge, ft_6_24, ↓x_alen, ↓x_icmp_lt, ↓x_bipush_m9, ↓x_goto, ↓x_iaload, Int.reduceAdd, Nat.reduceAdd, true_and, and_true, true_or, or_true, false_or, or_false, reduceCtorEq, false_and, and_false, and_self, or_self, false_implies, true_implies, not_true_eq_false, not_false_eq_true, implies_true, Option.some.injEq, kg6, kv6_6, kv6_5, kv6_4, kl5, kl8, kl12, kl16, kl20, kl21, of_5, of_8, of_12, of_16, of_40, kgI5, kgI8, kgI12, kgI16, kwI5, kwI8, kwI12, kwI16, k_as, k_a1, k_r2, i_in, i_cl, up_s, up_n]
  refine ⟨fun c => b_q q (by rw [k_mbr, if_pos c]), fun c => ⟨fun c2 => b_q q (by rw [k_mbr, if_neg c, if_neg (fun z => absurd c2 (Int32.not_lt.mpr z.1))]), fun c2 => ⟨fun c3 => b_q q (by rw [k_mbr, if_neg c, if_neg (fun z => absurd z.2.1 (Int32.not_lt.mpr c3))]), fun c3 => ⟨fun c4 => ?_, fun c4 => b_q q (by rw [k_mbr, if_neg c, if_neg (fun z => c4 z.2.2)])⟩⟩⟩⟩
  obtain ⟨m, e, hm⟩ := n_ofL (m := 12) (by decide) (Int32.not_lt.mp c2) c4 (by decide)
  refine ⟨by rw [e]; exact vp_in_nI hm (by decide), b_q q ?_⟩
  rw [k_mbr, if_neg c, if_pos ⟨Int32.not_lt.mp c2, Int32.not_le.mp c3, c4⟩]
def k_drw (P : k_P) (r s : Nat) (n m : Int32) : k_P := k_wa (k_wa P (r + 2) (va_up (P.2 (r + 2)) s n)) (r + 1) (va_up (P.2 (r + 1)) s m)
theorem h_drawR (hg : e_GK g) {r s : Nat} {n m : Int32} (hs : s < 12) (t : Z.1 r = 7) (t1 : Z.1 (r + 1) = 112) (t2 : Z.1 (r + 2) = 112) (q : Ψ none (K_H Z (k_drw P r s n m) U h)) : e_Sc g 30 [.ref r, .int (nI s), .int n, .int m] (K_H Z P U h) Ψ := by
  have n12 : r + 1 ≠ r + 2 := by omega
  refine e_call (cd := cd30) hg ok30 (by rw [mL30]; exact Nat.le_of_ble_eq_true rfl) ?_
  rw [mL30]
  simp only [x_ini, x_inr, x_inn, x_inq, x_inl, x_in0, x_rp0, x_rps, Nat.reduceSub]
  simp (decide := true) (disch := first | assumption | omega) only [↓u30_0, ↓u30_24, ↓x_nil, ↓x_om, ↓x_iload_1, ↓x_if_lt, ↓x_bipush_12, ↓x_icmp_ge, ↓x_aload_0r, ↓x_aload_0n, ↓x_aload_0q, ↓x_getfield, ft_6_15, ↓x_iload_2, ↓x_iastore, ft_6_9, ↓x_iload_3, ↓x_return, Int.reduceAdd, Nat.reduceAdd, true_and, and_true, true_or, or_true, false_or, or_false, reduceCtorEq, false_and, and_false, and_self, or_self, false_implies, true_implies, not_true_eq_false, not_false_eq_true, implies_true, Option.some.injEq, i_add, i_a1, i_m8, i_m5, i_m401, i_40, i_80, i_r40, i_s1, i_am1, i_sub, i_lt, i_le, i_eq, i_m1, il_le_0, il_ge_0, il_lt_0, il_gt_0, il_eq_0, il_le_1, il_ge_1, il_lt_1, il_gt_1, il_eq_1, il_le_2, il_ge_2, il_lt_2, il_gt_2, il_eq_2, il_le_3, il_ge_3, il_lt_3, il_gt_3, il_eq_3, il_le_4, il_ge_4, il_lt_4, il_gt_4, il_eq_4, il_le_5, il_ge_5, il_lt_5, il_gt_5, il_eq_5, il_le_6, il_ge_6, il_lt_6, il_gt_6, il_eq_6, il_le_7, il_ge_7, il_lt_7, il_gt_7, il_eq_7, il_le_8, il_ge_8, il_lt_8, il_gt_8, il_eq_8, il_le_12, il_ge_12, il_lt_12, il_gt_12, il_eq_12, il_le_16, il_ge_16, il_lt_16, il_gt_16, il_eq_16, il_le_20, il_ge_20, il_lt_20, il_gt_20, il_eq_20, il_le_21, il_ge_21, il_lt_21, il_gt_21, il_eq_21, il_le_40, il_ge_40, il_lt_40, il_gt_40, il_eq_40, il_le_100, il_ge_100, il_lt_100, il_gt_100, il_eq_100, il_le_120, il_ge_120, il_lt_120, il_gt_120, il_eq_120, il_le_200, il_ge_200, il_lt_200, il_gt_200, il_eq_200, il_le_400, il_ge_400, il_lt_400, il_gt_400, il_eq_400, il_le_700, il_ge_700, il_lt_700, il_gt_700, il_eq_700, k_an, kg6, kv6_1, kgI5, kgI8, kgI12, kgI16, kwI5, kwI8, kwI12, kwI16, k_as, k_a1, k_r2, i_in, i_cl, kv6_0, up_s, up_n]
  exact ⟨fun c => by omega, fun _ => ⟨fun c => by omega, fun _ => q⟩⟩
def k_pth (fr : Nat → Int32) : Nat → Int32 → List Nat
  | 0, _ => []
  | f + 1, a => if 0 ≤ a ∧ a < 12 then a.toNatClampNeg :: k_pth fr f (fr a.toNatClampNeg) else []
theorem k_pth_le {fr : Nat → Int32} : ∀ (f : Nat) (a : Int32), (k_pth fr f a).length ≤ f
  | 0, _ => Nat.le_refl _
  | f + 1, a => by
    unfold k_pth
    split
    · have := k_pth_le (fr := fr) f (fr a.toNatClampNeg)
      simp only [List.length_cons]
      omega
    · simp
theorem k_pthS {fr : Nat → Int32} {f : Nat} {y : Nat} (h : y < 12) : k_pth fr (f + 1) (nI y) = y :: k_pth fr f (fr y) := by
  rw [k_pth, if_pos ⟨nI_pos' (by omega), by rw [show (12 : Int32) = nI 12 from by decide]; exact nI_lt h (by omega)⟩, i_cl (by omega)]
theorem k_pthN {fr : Nat → Int32} {f : Nat} {x : Int32} (h : ¬ (0 ≤ x ∧ x < 12)) : k_pth fr f x = [] := by
  cases f with
  | zero => rfl
  | succ f => rw [k_pth, if_neg h]
def k_mem (p : List Nat) (n m : Nat → Int32) : Nat → Int32 := fun i => match p.reverse[i]? with
  | some x => n x
  | none => m i
def k_wdn (P : k_P) (r : Nat) (a : Int32) : k_P := k_wa (k_wr P 125 r (nI (k_pth (P.2 (r + 3)) 12 a).length)) (r + 5) (k_mem (k_pth (P.2 (r + 3)) 12 a) (P.2 (r + 2)) (P.2 (r + 5)))
theorem h_writeDown (hg : e_GK g) {r : Nat} {a : Int32} (t : Z.1 r = 7) (t2 : Z.1 (r + 2) = 112) (t3 : Z.1 (r + 3) = 112) (t5 : Z.1 (r + 5) = 112) (q : Ψ none (K_H Z (k_wdn P r a) U h)) : e_Sc g 32 [.ref r, .int a] (K_H Z P U h) Ψ := by
  have n25 : r + 2 ≠ r + 5 := by omega
  have n35 : r + 3 ≠ r + 5 := by omega
  have hl := k_pth_le (fr := P.2 (r + 3)) 12 a
  refine e_call (cd := cd32) hg ok32 (by rw [mL32]; exact Nat.le_of_ble_eq_true rfl) ?_
  rw [mL32]
  simp only [x_ini, x_inr, x_inn, x_inq, x_inl, x_in0, x_rp0, x_rps, Nat.reduceSub]
  unfold k_wdn at q
  generalize hQ : k_pth (P.2 (r + 3)) 12 a = Q at q hl
  have loop2 : ∀ n x pre f, Q = pre ++ k_pth (P.2 (r + 3)) f x → (k_pth (P.2 (r + 3)) f x).length = n → e_Sm g 32 6 cd32 Ψ 57 [some (.ref r), some (.int a), some (.int x), some (.int (nI n - 1))] [] (K_H Z (k_wa (k_wr P 125 r (nI (Q).length)) (r + 5) (fun i => if n ≤ i then k_mem (Q) (P.2 (r + 2)) (P.2 (r + 5)) i else P.2 (r + 5) i)) U h) := by
    intro n
    induction n with
    | zero =>
      intro x pre f hp hn
      rw [u32_57]
      simp (decide := true) (disch := first | assumption | omega) only [↓u32_0, ↓u32_48, ↓u32_96, ↓x_nil, ↓x_om, ↓x_aload_0r, ↓x_aload_0n, ↓x_aload_0q, ↓x_iconst_0, ↓x_putfield, ft_6_31, x_fit0, x_fit1, x_fit2r, x_fit2n, x_fit2q, ↓x_iload_1, ↓x_istore_2, x_cl_i, x_cl_r, x_cl_n, x_cl_q, x_cl_0, x_cl_l, ↓x_istore_3, ↓x_iload_3, ↓x_bipush_12, ↓x_icmp_ge, ↓x_iload_2, ↓x_if_lt, ↓x_dup_i, ↓x_dup_r, ↓x_dup_n, ↓x_getfield, ↓x_iconst_1, ↓x_iadd, ft_6_18, ↓x_iaload, ↓x_iinc_3_1, ↓x_goto, ↓x_isub, ft_6_24, ft_6_15, ↓x_iastore, ↓x_iinc_3_m1, ↓x_return, Int.reduceAdd, Nat.reduceAdd, true_and, and_true, true_or, or_true, false_or, or_false, reduceCtorEq, false_and, and_false, and_self, or_self, false_implies, true_implies, not_true_eq_false, not_false_eq_true, implies_true, Option.some.injEq, kg6, kv6_5, kw6_5, k_rs, k_rn, k_r2, k_c2, kv6_2, kgI5, kgI8, kgI12, kgI16, kwI5, kwI8, kwI12, kwI16, k_as, k_a1, i_in, i_cl, kv6_4, kv6_1, up_s, up_n]
      refine k_q q ?_
      congr 1
    | succ n ih =>
      intro x pre f hp hn
      rw [u32_57, show nI (n + 1) - 1 = nI n from i_s1 (Nat.succ_pos n)]
      cases f with
      | zero => simp [k_pth] at hn
      | succ f =>
        by_cases cx : 0 ≤ x ∧ x < 12
        · obtain ⟨y, rfl, hy⟩ := n_ofL (m := 12) (by decide) cx.1 cx.2 (by decide)
          rw [k_pthS hy] at hp hn
          simp only [List.length_cons, Nat.add_right_cancel_iff] at hn
          have hm : (Q).length = pre.length + (n + 1) := by rw [hp]; simp [hn]
          have am : nI n + -1 = nI n - 1 := by rw [Int32.sub_eq_add_neg]
          simp (decide := true) (disch := first | assumption | omega) only [↓u32_0, ↓u32_48, ↓u32_96, ↓x_nil, ↓x_om, ↓x_aload_0r, ↓x_aload_0n, ↓x_aload_0q, ↓x_iconst_0, ↓x_putfield, ft_6_31, x_fit0, x_fit1, x_fit2r, x_fit2n, x_fit2q, ↓x_iload_1, ↓x_istore_2, x_cl_i, x_cl_r, x_cl_n, x_cl_q, x_cl_0, x_cl_l, ↓x_istore_3, ↓x_iload_3, ↓x_bipush_12, ↓x_icmp_ge, ↓x_iload_2, ↓x_if_lt, ↓x_dup_i, ↓x_dup_r, ↓x_dup_n, ↓x_getfield, ↓x_iconst_1, ↓x_iadd, ft_6_18, ↓x_iaload, ↓x_iinc_3_1, ↓x_goto, ↓x_isub, ft_6_24, ft_6_15, ↓x_iastore, ↓x_iinc_3_m1, ↓x_return, Int.reduceAdd, Nat.reduceAdd, true_and, and_true, true_or, or_true, false_or, or_false, reduceCtorEq, false_and, and_false, and_self, or_self, false_implies, true_implies, not_true_eq_false, not_false_eq_true, implies_true, Option.some.injEq, i_add, i_a1, i_m8, i_m5, i_m401, i_40, i_80, i_r40, i_s1, i_am1, i_sub, i_lt, i_le, i_eq, i_m1, il_le_0, il_ge_0, il_lt_0, il_gt_0, il_eq_0, il_le_1, il_ge_1, il_lt_1, il_gt_1, il_eq_1, il_le_2, il_ge_2, il_lt_2, il_gt_2, il_eq_2, il_le_3, il_ge_3, il_lt_3, il_gt_3, il_eq_3, il_le_4, il_ge_4, il_lt_4, il_gt_4, il_eq_4, il_le_5, il_ge_5, il_lt_5, il_gt_5, il_eq_5, il_le_6, il_ge_6, il_lt_6, il_gt_6, il_eq_6, il_le_7, il_ge_7, il_lt_7, il_gt_7, il_eq_7, il_le_8, il_ge_8, il_lt_8, il_gt_8, il_eq_8, il_le_12, il_ge_12, il_lt_12, il_gt_12, il_eq_12, il_le_16, il_ge_16, il_lt_16, il_gt_16, il_eq_16, il_le_20, il_ge_20, il_lt_20, il_gt_20, il_eq_20, il_le_21, il_ge_21, il_lt_21, il_gt_21, il_eq_21, il_le_40, il_ge_40, il_lt_40, il_gt_40, il_eq_40, il_le_100, il_ge_100, il_lt_100, il_gt_100, il_eq_100, il_le_120, il_ge_120, il_lt_120, il_gt_120, il_eq_120, il_le_200, il_ge_200, il_lt_200, il_gt_200, il_eq_200, il_le_400, il_ge_400, il_lt_400, il_gt_400, il_eq_400, il_le_700, il_ge_700, il_lt_700, il_gt_700, il_eq_700, k_an, kg6, kv6_5, kw6_5, k_rs, k_rn, k_r2, k_c2, kv6_2, kgI5, kgI8, kgI12, kgI16, kwI5, kwI8, kwI12, kwI16, k_as, k_a1, i_in, i_cl, kv6_4, kv6_1, up_s, up_n]
          refine ⟨fun c => by omega, fun _ => ⟨fun c => by omega, fun _ => ⟨fun c => by omega, fun _ => ?_⟩⟩⟩
          have := ih ((P.2 (r + 3)) y) (pre ++ [y]) f (by rw [hp]; simp) hn
          rw [am, k_waa]
          refine (congrArg (fun z => e_Sm g 32 6 cd32 Ψ 57 [some (.ref r), some (.int a), some (.int (P.2 (r + 3) y)), some (.int (nI n - 1))] [] (K_H Z (k_wa (k_wr P 125 r (nI Q.length)) (r + 5) z) U h)) (funext fun i => ?_)).mp this
          by_cases e : i = n
          · subst e
            rw [up_s, if_pos (Nat.le_refl _), k_mem]
            have er : Q.reverse[i]? = some y := by
              rw [hp, List.reverse_append, List.reverse_cons, List.append_assoc, List.getElem?_append_right (by rw [List.length_reverse]; omega), List.length_reverse, hn, Nat.sub_self]
              rfl
            rw [er]
          · rw [up_n e]
            by_cases e2 : n + 1 ≤ i
            · rw [if_pos e2, if_pos (by omega)]
            · rw [if_neg e2, if_neg (by omega)]
        · rw [k_pthN cx] at hn
          simp at hn
  have loop1 : ∀ f i x, i + f = 12 → (Q).length = i + (k_pth (P.2 (r + 3)) f x).length → e_Sm g 32 6 cd32 Ψ 9 [some (.ref r), some (.int a), some (.int x), some (.int (nI i))] [] (K_H Z (k_wr P 125 r (nI i)) U h) := by
    have done : ∀ i x, (Q).length = i → e_Sm g 32 6 cd32 Ψ 48 [some (.ref r), some (.int a), some (.int x), some (.int (nI i))] [] (K_H Z (k_wr P 125 r (nI i)) U h) := fun i x hi => by
      rw [u32_48]
      simp (decide := true) (disch := first | assumption | omega) only [↓u32_0, ↓u32_48, ↓u32_96, ↓x_nil, ↓x_om, ↓x_aload_0r, ↓x_aload_0n, ↓x_aload_0q, ↓x_iconst_0, ↓x_putfield, ft_6_31, x_fit0, x_fit1, x_fit2r, x_fit2n, x_fit2q, ↓x_iload_1, ↓x_istore_2, x_cl_i, x_cl_r, x_cl_n, x_cl_q, x_cl_0, x_cl_l, ↓x_istore_3, ↓x_iload_3, ↓x_bipush_12, ↓x_icmp_ge, ↓x_iload_2, ↓x_if_lt, ↓x_dup_i, ↓x_dup_r, ↓x_dup_n, ↓x_getfield, ↓x_iconst_1, ↓x_iadd, ft_6_18, ↓x_iaload, ↓x_iinc_3_1, ↓x_goto, ↓x_isub, ft_6_24, ft_6_15, ↓x_iastore, ↓x_iinc_3_m1, ↓x_return, Int.reduceAdd, Nat.reduceAdd, true_and, and_true, true_or, or_true, false_or, or_false, reduceCtorEq, false_and, and_false, and_self, or_self, false_implies, true_implies, not_true_eq_false, not_false_eq_true, implies_true, Option.some.injEq, kg6, kv6_5, kw6_5, k_rs, k_rn, k_r2, k_c2, kv6_2, kgI5, kgI8, kgI12, kgI16, kwI5, kwI8, kwI12, kwI16, k_as, k_a1, i_in, i_cl, kv6_4, kv6_1, up_s, up_n]
      have := loop2 i a [] 12 hQ.symm (hQ ▸ hi)
      have e : (fun j => if i ≤ j then k_mem (Q) (P.2 (r + 2)) (P.2 (r + 5)) j else P.2 (r + 5) j) = (k_wr P 125 r (nI i)).2 (r + 5) := funext fun j => by
        by_cases c : i ≤ j
        · rw [if_pos c, k_mem, List.getElem?_eq_none (by rw [List.length_reverse]; omega)]
          rfl
        · rw [if_neg c]
          rfl
      rw [hi, e, k_wa0] at this
      exact this
    intro f
    induction f with
    | zero =>
      intro i x hi hx
      rw [u32_9]
      simp (decide := true) (disch := first | assumption | omega) only [↓u32_0, ↓u32_96, ↓x_nil, ↓x_om, ↓x_aload_0r, ↓x_aload_0n, ↓x_aload_0q, ↓x_iconst_0, ↓x_putfield, ft_6_31, x_fit0, x_fit1, x_fit2r, x_fit2n, x_fit2q, ↓x_iload_1, ↓x_istore_2, x_cl_i, x_cl_r, x_cl_n, x_cl_q, x_cl_0, x_cl_l, ↓x_istore_3, ↓x_iload_3, ↓x_bipush_12, ↓x_icmp_ge, ↓x_iload_2, ↓x_if_lt, ↓x_dup_i, ↓x_dup_r, ↓x_dup_n, ↓x_getfield, ↓x_iconst_1, ↓x_iadd, ft_6_18, ↓x_iaload, ↓x_iinc_3_1, ↓x_goto, ↓x_isub, ft_6_24, ft_6_15, ↓x_iastore, ↓x_iinc_3_m1, ↓x_return, Int.reduceAdd, Nat.reduceAdd, true_and, and_true, true_or, or_true, false_or, or_false, reduceCtorEq, false_and, and_false, and_self, or_self, false_implies, true_implies, not_true_eq_false, not_false_eq_true, implies_true, Option.some.injEq, i_add, i_a1, i_m8, i_m5, i_m401, i_40, i_80, i_r40, i_s1, i_am1, i_sub, i_lt, i_le, i_eq, i_m1, il_le_0, il_ge_0, il_lt_0, il_gt_0, il_eq_0, il_le_1, il_ge_1, il_lt_1, il_gt_1, il_eq_1, il_le_2, il_ge_2, il_lt_2, il_gt_2, il_eq_2, il_le_3, il_ge_3, il_lt_3, il_gt_3, il_eq_3, il_le_4, il_ge_4, il_lt_4, il_gt_4, il_eq_4, il_le_5, il_ge_5, il_lt_5, il_gt_5, il_eq_5, il_le_6, il_ge_6, il_lt_6, il_gt_6, il_eq_6, il_le_7, il_ge_7, il_lt_7, il_gt_7, il_eq_7, il_le_8, il_ge_8, il_lt_8, il_gt_8, il_eq_8, il_le_12, il_ge_12, il_lt_12, il_gt_12, il_eq_12, il_le_16, il_ge_16, il_lt_16, il_gt_16, il_eq_16, il_le_20, il_ge_20, il_lt_20, il_gt_20, il_eq_20, il_le_21, il_ge_21, il_lt_21, il_gt_21, il_eq_21, il_le_40, il_ge_40, il_lt_40, il_gt_40, il_eq_40, il_le_100, il_ge_100, il_lt_100, il_gt_100, il_eq_100, il_le_120, il_ge_120, il_lt_120, il_gt_120, il_eq_120, il_le_200, il_ge_200, il_lt_200, il_gt_200, il_eq_200, il_le_400, il_ge_400, il_lt_400, il_gt_400, il_eq_400, il_le_700, il_ge_700, il_lt_700, il_gt_700, il_eq_700, kg6, kv6_5, kw6_5, k_rs, k_rn, k_r2, k_c2, kv6_2, kgI5, kgI8, kgI12, kgI16, kwI5, kwI8, kwI12, kwI16, k_as, k_a1, i_in, i_cl, kv6_4, kv6_1, up_s, up_n]
      rw [k_pth, List.length_nil, Nat.add_zero] at hx
      exact ⟨fun _ => done i x hx, fun c => by omega⟩
    | succ f ih =>
      intro i x hi hx
      rw [u32_9]
      by_cases cx : 0 ≤ x ∧ x < 12
      · obtain ⟨y, rfl, hy⟩ := n_ofL (m := 12) (by decide) cx.1 cx.2 (by decide)
        rw [k_pthS hy, List.length_cons] at hx
        simp (decide := true) (disch := first | assumption | omega) only [↓u32_0, ↓u32_96, ↓x_nil, ↓x_om, ↓x_aload_0r, ↓x_aload_0n, ↓x_aload_0q, ↓x_iconst_0, ↓x_putfield, ft_6_31, x_fit0, x_fit1, x_fit2r, x_fit2n, x_fit2q, ↓x_iload_1, ↓x_istore_2, x_cl_i, x_cl_r, x_cl_n, x_cl_q, x_cl_0, x_cl_l, ↓x_istore_3, ↓x_iload_3, ↓x_bipush_12, ↓x_icmp_ge, ↓x_iload_2, ↓x_if_lt, ↓x_dup_i, ↓x_dup_r, ↓x_dup_n, ↓x_getfield, ↓x_iconst_1, ↓x_iadd, ft_6_18, ↓x_iaload, ↓x_iinc_3_1, ↓x_goto, ↓x_isub, ft_6_24, ft_6_15, ↓x_iastore, ↓x_iinc_3_m1, ↓x_return, Int.reduceAdd, Nat.reduceAdd, true_and, and_true, true_or, or_true, false_or, or_false, reduceCtorEq, false_and, and_false, and_self, or_self, false_implies, true_implies, not_true_eq_false, not_false_eq_true, implies_true, Option.some.injEq, i_add, i_a1, i_m8, i_m5, i_m401, i_40, i_80, i_r40, i_s1, i_am1, i_sub, i_lt, i_le, i_eq, i_m1, il_le_0, il_ge_0, il_lt_0, il_gt_0, il_eq_0, il_le_1, il_ge_1, il_lt_1, il_gt_1, il_eq_1, il_le_2, il_ge_2, il_lt_2, il_gt_2, il_eq_2, il_le_3, il_ge_3, il_lt_3, il_gt_3, il_eq_3, il_le_4, il_ge_4, il_lt_4, il_gt_4, il_eq_4, il_le_5, il_ge_5, il_lt_5, il_gt_5, il_eq_5, il_le_6, il_ge_6, il_lt_6, il_gt_6, il_eq_6, il_le_7, il_ge_7, il_lt_7, il_gt_7, il_eq_7, il_le_8, il_ge_8, il_lt_8, il_gt_8, il_eq_8, il_le_12, il_ge_12, il_lt_12, il_gt_12, il_eq_12, il_le_16, il_ge_16, il_lt_16, il_gt_16, il_eq_16, il_le_20, il_ge_20, il_lt_20, il_gt_20, il_eq_20, il_le_21, il_ge_21, il_lt_21, il_gt_21, il_eq_21, il_le_40, il_ge_40, il_lt_40, il_gt_40, il_eq_40, il_le_100, il_ge_100, il_lt_100, il_gt_100, il_eq_100, il_le_120, il_ge_120, il_lt_120, il_gt_120, il_eq_120, il_le_200, il_ge_200, il_lt_200, il_gt_200, il_eq_200, il_le_400, il_ge_400, il_lt_400, il_gt_400, il_eq_400, il_le_700, il_ge_700, il_lt_700, il_gt_700, il_eq_700, k_wrr, kg6, kv6_5, kw6_5, k_rs, k_rn, k_r2, k_c2, kv6_2, kgI5, kgI8, kgI12, kgI16, kwI5, kwI8, kwI12, kwI16, k_as, k_a1, i_in, i_cl, kv6_4, kv6_1, up_s, up_n]
        refine ⟨fun c => by omega, fun _ => ⟨fun c => by omega, fun _ => ⟨fun c => by omega, fun _ => ?_⟩⟩⟩
        exact ih (i + 1) _ (by omega) (by omega)
      · rw [k_pthN cx, List.length_nil, Nat.add_zero] at hx
        simp (decide := true) (disch := first | assumption | omega) only [↓u32_0, ↓u32_96, ↓x_nil, ↓x_om, ↓x_aload_0r, ↓x_aload_0n, ↓x_aload_0q, ↓x_iconst_0, ↓x_putfield, ft_6_31, x_fit0, x_fit1, x_fit2r, x_fit2n, x_fit2q, ↓x_iload_1, ↓x_istore_2, x_cl_i, x_cl_r, x_cl_n, x_cl_q, x_cl_0, x_cl_l, ↓x_istore_3, ↓x_iload_3, ↓x_bipush_12, ↓x_icmp_ge, ↓x_iload_2, ↓x_if_lt, ↓x_dup_i, ↓x_dup_r, ↓x_dup_n, ↓x_getfield, ↓x_iconst_1, ↓x_iadd, ft_6_18, ↓x_iaload, ↓x_iinc_3_1, ↓x_goto, ↓x_isub, ft_6_24, ft_6_15, ↓x_iastore, ↓x_iinc_3_m1, ↓x_return, Int.reduceAdd, Nat.reduceAdd, true_and, and_true, true_or, or_true, false_or, or_false, reduceCtorEq, false_and, and_false, and_self, or_self, false_implies, true_implies, not_true_eq_false, not_false_eq_true, implies_true, Option.some.injEq, i_add, i_a1, i_m8, i_m5, i_m401, i_40, i_80, i_r40, i_s1, i_am1, i_sub, i_lt, i_le, i_eq, i_m1, il_le_0, il_ge_0, il_lt_0, il_gt_0, il_eq_0, il_le_1, il_ge_1, il_lt_1, il_gt_1, il_eq_1, il_le_2, il_ge_2, il_lt_2, il_gt_2, il_eq_2, il_le_3, il_ge_3, il_lt_3, il_gt_3, il_eq_3, il_le_4, il_ge_4, il_lt_4, il_gt_4, il_eq_4, il_le_5, il_ge_5, il_lt_5, il_gt_5, il_eq_5, il_le_6, il_ge_6, il_lt_6, il_gt_6, il_eq_6, il_le_7, il_ge_7, il_lt_7, il_gt_7, il_eq_7, il_le_8, il_ge_8, il_lt_8, il_gt_8, il_eq_8, il_le_12, il_ge_12, il_lt_12, il_gt_12, il_eq_12, il_le_16, il_ge_16, il_lt_16, il_gt_16, il_eq_16, il_le_20, il_ge_20, il_lt_20, il_gt_20, il_eq_20, il_le_21, il_ge_21, il_lt_21, il_gt_21, il_eq_21, il_le_40, il_ge_40, il_lt_40, il_gt_40, il_eq_40, il_le_100, il_ge_100, il_lt_100, il_gt_100, il_eq_100, il_le_120, il_ge_120, il_lt_120, il_gt_120, il_eq_120, il_le_200, il_ge_200, il_lt_200, il_gt_200, il_eq_200, il_le_400, il_ge_400, il_lt_400, il_gt_400, il_eq_400, il_le_700, il_ge_700, il_lt_700, il_gt_700, il_eq_700, kg6, kv6_5, kw6_5, k_rs, k_rn, k_r2, k_c2, kv6_2, kgI5, kgI8, kgI12, kgI16, kwI5, kwI8, kwI12, kwI16, k_as, k_a1, i_in, i_cl, kv6_4, kv6_1, up_s, up_n]
        refine ⟨fun _ => done i x hx, fun _ => ⟨fun _ => done i x hx, fun c1 => ⟨fun _ => done i x hx, fun c2 => ?_⟩⟩⟩
        exact absurd ⟨Int32.not_lt.mp c1, Int32.not_le.mp c2⟩ cx
  simp (decide := true) (disch := first | assumption | omega) only [↓u32_0, ↓u32_48, ↓u32_96, ↓x_nil, ↓x_om, ↓x_aload_0r, ↓x_aload_0n, ↓x_aload_0q, ↓x_iconst_0, ↓x_putfield, ft_6_31, x_fit0, x_fit1, x_fit2r, x_fit2n, x_fit2q, ↓x_iload_1, ↓x_istore_2, x_cl_i, x_cl_r, x_cl_n, x_cl_q, x_cl_0, x_cl_l, ↓x_istore_3, ↓x_iload_3, ↓x_bipush_12, ↓x_icmp_ge, ↓x_iload_2, ↓x_if_lt, ↓x_dup_i, ↓x_dup_r, ↓x_dup_n, ↓x_getfield, ↓x_iconst_1, ↓x_iadd, ft_6_18, ↓x_iaload, ↓x_iinc_3_1, ↓x_goto, ↓x_isub, ft_6_24, ft_6_15, ↓x_iastore, ↓x_iinc_3_m1, ↓x_return, Int.reduceAdd, Nat.reduceAdd, true_and, and_true, true_or, or_true, false_or, or_false, reduceCtorEq, false_and, and_false, and_self, or_self, false_implies, true_implies, not_true_eq_false, not_false_eq_true, implies_true, Option.some.injEq, i_add, i_a1, i_m8, i_m5, i_m401, i_40, i_80, i_r40, i_s1, i_am1, i_sub, i_lt, i_le, i_eq, i_m1, il_le_0, il_ge_0, il_lt_0, il_gt_0, il_eq_0, il_le_1, il_ge_1, il_lt_1, il_gt_1, il_eq_1, il_le_2, il_ge_2, il_lt_2, il_gt_2, il_eq_2, il_le_3, il_ge_3, il_lt_3, il_gt_3, il_eq_3, il_le_4, il_ge_4, il_lt_4, il_gt_4, il_eq_4, il_le_5, il_ge_5, il_lt_5, il_gt_5, il_eq_5, il_le_6, il_ge_6, il_lt_6, il_gt_6, il_eq_6, il_le_7, il_ge_7, il_lt_7, il_gt_7, il_eq_7, il_le_8, il_ge_8, il_lt_8, il_gt_8, il_eq_8, il_le_12, il_ge_12, il_lt_12, il_gt_12, il_eq_12, il_le_16, il_ge_16, il_lt_16, il_gt_16, il_eq_16, il_le_20, il_ge_20, il_lt_20, il_gt_20, il_eq_20, il_le_21, il_ge_21, il_lt_21, il_gt_21, il_eq_21, il_le_40, il_ge_40, il_lt_40, il_gt_40, il_eq_40, il_le_100, il_ge_100, il_lt_100, il_gt_100, il_eq_100, il_le_120, il_ge_120, il_lt_120, il_gt_120, il_eq_120, il_le_200, il_ge_200, il_lt_200, il_gt_200, il_eq_200, il_le_400, il_ge_400, il_lt_400, il_gt_400, il_eq_400, il_le_700, il_ge_700, il_lt_700, il_gt_700, il_eq_700, kg6, kv6_5, kw6_5, k_rs, k_rn, k_r2, k_c2, kv6_2, kgI5, kgI8, kgI12, kgI16, kwI5, kwI8, kwI12, kwI16, k_as, k_a1, i_in, i_cl, kv6_4, kv6_1, up_s, up_n]
  exact loop1 12 0 a rfl (by rw [hQ, Nat.zero_add])
/-- one seat's looking on -/
def k_ex (m : Int32) (a : Nat) (x : Nat) : Nat → List Nat → (Nat → Int32) → List Nat × (Nat → Int32)
  | 0, l, fr => (l, fr)
  | f + 1, l, fr => if l.length < 12 then (if k_b m x = true ∧ x ∉ l then k_ex m a (x + 1) f (l ++ [x]) (va_up fr x (nI a)) else k_ex m a (x + 1) f l fr) else (l, fr)
def k_bf (M : Nat → Int32) (st : Nat) (h : Nat) : Nat → List Nat → (Nat → Int32) → Option Nat × List Nat × (Nat → Int32)
  | 0, l, fr => (none, l, fr)
  | f + 1, l, fr => match l[h]? with
    | none => (none, l, fr)
    | some a => if k_b (M a) st = true then (some a, l, fr) else k_bf M st (h + 1) f (k_ex (M a) a 0 12 l fr).1 (k_ex (M a) a 0 12 l fr).2
theorem k_exN {m : Int32} {a x f : Nat} {l : List Nat} {fr : Nat → Int32} (h : 12 ≤ l.length) : k_ex m a x f l fr = (l, fr) := by
  cases f with
  | zero => rfl
  | succ f => rw [k_ex, if_neg (by omega)]
def k_lne (l : List Nat) (ln : Nat → Int32) : Prop := ∀ i x, l[i]? = some x → ln i = nI x
def k_sn (l : List Nat) (m : Int32) : Prop := ∀ i, i < 12 → k_b m i = decide (i ∈ l)
theorem h_find (hg : e_GK g) {r s : Nat} (hs : s < 12) (t : Z.1 r = 7) (t1 : Z.1 (r + 1) = 112) (t2 : Z.1 (r + 2) = 112) (t3 : Z.1 (r + 3) = 112) (t4 : Z.1 (r + 4) = 112) (t5 : Z.1 (r + 5) = 112)
    (q : ∀ l fr ln, k_bf (P.2 (r + 1)) s 0 12 [s] (va_up (P.2 (r + 3)) s (-1)) = (none, l, fr) → Ψ (some (.int 0)) (K_H Z (k_wa (k_wa P (r + 4) ln) (r + 3) fr) U h))
    (q2 : ∀ a l fr ln, k_bf (P.2 (r + 1)) s 0 12 [s] (va_up (P.2 (r + 3)) s (-1)) = (some a, l, fr) → Ψ (some (.int 1)) (K_H Z (k_wdn (k_wa (k_wa P (r + 4) ln) (r + 3) fr) r (nI a)) U h)) :
    e_Sc g 31 [.ref r, .int (nI s)] (K_H Z P U h) Ψ := by
  have n14 : r + 1 ≠ r + 4 := by omega
  have n13 : r + 1 ≠ r + 3 := by omega
  have n34 : r + 3 ≠ r + 4 := by omega
  have n43 : r + 4 ≠ r + 3 := by omega
  have sw : ∀ (Q : k_P) (f f' : Nat → Int32), k_wa (k_wa Q (r + 3) f) (r + 4) f' = k_wa (k_wa Q (r + 4) f') (r + 3) f := fun Q f f' => by
    unfold k_wa
    refine Prod.ext rfl (funext fun b => ?_)
    by_cases e : b = r + 3
    · subst e; simp only [up_s, up_n n34]
    · by_cases e2 : b = r + 4
      · subst e2; simp only [up_s, up_n n43]
      · simp only [up_n e, up_n e2]
  generalize hE : k_bf (P.2 (r + 1)) s 0 12 [s] (va_up (P.2 (r + 3)) s (-1)) = E at q q2
  refine e_call (cd := cd31) hg ok31 (by rw [mL31]; exact Nat.le_of_ble_eq_true rfl) ?_
  rw [mL31]
  simp only [x_ini, x_inr, x_inn, x_inq, x_inl, x_in0, x_rp0, x_rps, Nat.reduceSub]
  have inner : ∀ (a hd : Nat) (Φ : List Nat → (Nat → Int32) → (Nat → Int32) → Int32 → Prop), a < 12 → hd < 12 →
      (∀ l fr ln m w6, Φ l fr ln m → e_Sm g 31 6 cd31 Ψ 149 [some (.ref r), some (.int (nI s)), some (.int m), some (.int (nI l.length)), some (.int (nI hd)), some (.int (nI a)), w6] [] (K_H Z (k_wa (k_wa P (r + 4) ln) (r + 3) fr) U h)) →
      ∀ f x l fr ln m, x + f = 12 → l.length ≤ 12 → (∀ y ∈ l, y < 12) → k_lne l ln → k_sn l m → (∀ l' fr' ln' m', k_ex (P.2 (r + 1) a) a x f l fr = (l', fr') → l'.length ≤ 12 → (∀ y ∈ l', y < 12) → k_lne l' ln' → k_sn l' m' → Φ l' fr' ln' m') →
      e_Sm g 31 6 cd31 Ψ 83 [some (.ref r), some (.int (nI s)), some (.int m), some (.int (nI l.length)), some (.int (nI hd)), some (.int (nI a)), some (.int (nI x))] [] (K_H Z (k_wa (k_wa P (r + 4) ln) (r + 3) fr) U h) := by
    intro a hd Φ ha hhd out f
    induction f with
    | zero =>
      intro x l fr ln m hx hl hy hln hsn hΦ
      rw [u31_83]
      simp (decide := true) (disch := first | assumption | omega) only [↓u31_0, ↓u31_10, ↓u31_12, ↓u31_80, ↓u31_143, ↓u31_155, ↓x_nil, ↓x_om, ↓x_iload_1, ↓x_if_lt, ↓x_bipush_12, ↓x_icmp_lt, ↓x_iconst_0, ↓x_ireturn, rt31, ↓x_iconst_1, ↓x_ishl, ↓x_istore_2, x_cl_i, x_cl_r, x_cl_n, x_cl_q, x_cl_0, x_cl_l, ↓x_istore_3, ↓x_aload_0r, ↓x_aload_0n, ↓x_aload_0q, ↓x_getfield, ft_6_21, ↓x_iastore, ft_6_18, ↓x_iconst_m1, ↓x_istore_4, ↓x_iload_4, ↓x_iload_3, ↓x_icmp_ge, ↓x_iaload, ↓x_istore_5, ft_6_9, ↓x_iload_5, ↓x_ishr, ↓x_iand, ↓x_icmp_ne, ↓x_invokevirtual, mt_6_34, x_ps0, x_ps1, x_l40, x_l41, x_l42, x_l43, x_l44, ↓x_cv1, ↓x_istore_6, ↓x_iload_6, ↓x_iload_2, ↓x_ixor, ↓x_ior, ↓x_iinc_3_1, ↓x_iinc_6_1, ↓x_goto, ↓x_iinc_4_1, Int.reduceAdd, Nat.reduceAdd, true_and, and_true, true_or, or_true, false_or, or_false, reduceCtorEq, false_and, and_false, and_self, or_self, false_implies, true_implies, not_true_eq_false, not_false_eq_true, implies_true, Option.some.injEq, i_add, i_a1, i_m8, i_m5, i_m401, i_40, i_80, i_r40, i_s1, i_am1, i_sub, i_lt, i_le, i_eq, i_m1, il_le_0, il_ge_0, il_lt_0, il_gt_0, il_eq_0, il_le_1, il_ge_1, il_lt_1, il_gt_1, il_eq_1, il_le_2, il_ge_2, il_lt_2, il_gt_2, il_eq_2, il_le_3, il_ge_3, il_lt_3, il_gt_3, il_eq_3, il_le_4, il_ge_4, il_lt_4, il_gt_4, il_eq_4, il_le_5, il_ge_5, il_lt_5, il_gt_5, il_eq_5, il_le_6, il_ge_6, il_lt_6, il_gt_6, il_eq_6, il_le_7, il_ge_7, il_lt_7, il_gt_7, il_eq_7, il_le_8, il_ge_8, il_lt_8, il_gt_8, il_eq_8, il_le_12, il_ge_12, il_lt_12, il_gt_12, il_eq_12, il_le_16, il_ge_16, il_lt_16, il_gt_16, il_eq_16, il_le_20, il_ge_20, il_lt_20, il_gt_20, il_eq_20, il_le_21, il_ge_21, il_lt_21, il_gt_21, il_eq_21, il_le_40, il_ge_40, il_lt_40, il_gt_40, il_eq_40, il_le_100, il_ge_100, il_lt_100, il_gt_100, il_eq_100, il_le_120, il_ge_120, il_lt_120, il_gt_120, il_eq_120, il_le_200, il_ge_200, il_lt_200, il_gt_200, il_eq_200, il_le_400, il_ge_400, il_lt_400, il_gt_400, il_eq_400, il_le_700, il_ge_700, il_lt_700, il_gt_700, il_eq_700, kg6, kv6_3, kgI5, kgI8, kgI12, kgI16, kwI5, kwI8, kwI12, kwI16, k_as, k_a1, k_r2, i_in, i_cl, kv6_2, kv6_0, ki6, up_s, up_n]
      exact ⟨fun _ => out _ _ _ _ _ (hΦ l fr ln m rfl hl hy hln hsn), fun c => by omega⟩
    | succ f ih =>
      intro x l fr ln m hx hl hy hln hsn hΦ
      rw [u31_83]
      simp (decide := true) (disch := first | assumption | omega) only [↓u31_0, ↓u31_10, ↓u31_12, ↓u31_80, ↓u31_143, ↓u31_155, ↓x_nil, ↓x_om, ↓x_iload_1, ↓x_if_lt, ↓x_bipush_12, ↓x_icmp_lt, ↓x_iconst_0, ↓x_ireturn, rt31, ↓x_iconst_1, ↓x_ishl, ↓x_istore_2, x_cl_i, x_cl_r, x_cl_n, x_cl_q, x_cl_0, x_cl_l, ↓x_istore_3, ↓x_aload_0r, ↓x_aload_0n, ↓x_aload_0q, ↓x_getfield, ft_6_21, ↓x_iastore, ft_6_18, ↓x_iconst_m1, ↓x_istore_4, ↓x_iload_4, ↓x_iload_3, ↓x_icmp_ge, ↓x_iaload, ↓x_istore_5, ft_6_9, ↓x_iload_5, ↓x_ishr, ↓x_iand, ↓x_icmp_ne, ↓x_invokevirtual, mt_6_34, x_ps0, x_ps1, x_l40, x_l41, x_l42, x_l43, x_l44, ↓x_cv1, ↓x_istore_6, ↓x_iload_6, ↓x_iload_2, ↓x_ixor, ↓x_ior, ↓x_iinc_3_1, ↓x_iinc_6_1, ↓x_goto, ↓x_iinc_4_1, Int.reduceAdd, Nat.reduceAdd, true_and, and_true, true_or, or_true, false_or, or_false, reduceCtorEq, false_and, and_false, and_self, or_self, false_implies, true_implies, not_true_eq_false, not_false_eq_true, implies_true, Option.some.injEq, i_add, i_a1, i_m8, i_m5, i_m401, i_40, i_80, i_r40, i_s1, i_am1, i_sub, i_lt, i_le, i_eq, i_m1, il_le_0, il_ge_0, il_lt_0, il_gt_0, il_eq_0, il_le_1, il_ge_1, il_lt_1, il_gt_1, il_eq_1, il_le_2, il_ge_2, il_lt_2, il_gt_2, il_eq_2, il_le_3, il_ge_3, il_lt_3, il_gt_3, il_eq_3, il_le_4, il_ge_4, il_lt_4, il_gt_4, il_eq_4, il_le_5, il_ge_5, il_lt_5, il_gt_5, il_eq_5, il_le_6, il_ge_6, il_lt_6, il_gt_6, il_eq_6, il_le_7, il_ge_7, il_lt_7, il_gt_7, il_eq_7, il_le_8, il_ge_8, il_lt_8, il_gt_8, il_eq_8, il_le_12, il_ge_12, il_lt_12, il_gt_12, il_eq_12, il_le_16, il_ge_16, il_lt_16, il_gt_16, il_eq_16, il_le_20, il_ge_20, il_lt_20, il_gt_20, il_eq_20, il_le_21, il_ge_21, il_lt_21, il_gt_21, il_eq_21, il_le_40, il_ge_40, il_lt_40, il_gt_40, il_eq_40, il_le_100, il_ge_100, il_lt_100, il_gt_100, il_eq_100, il_le_120, il_ge_120, il_lt_120, il_gt_120, il_eq_120, il_le_200, il_ge_200, il_lt_200, il_gt_200, il_eq_200, il_le_400, il_ge_400, il_lt_400, il_gt_400, il_eq_400, il_le_700, il_ge_700, il_lt_700, il_gt_700, il_eq_700, k_an, kg6, kv6_3, kgI5, kgI8, kgI12, kgI16, kwI5, kwI8, kwI12, kwI16, k_as, k_a1, k_r2, i_in, i_cl, kv6_2, kv6_0, ki6, up_s, up_n]
      refine ⟨fun c => by omega, fun _ => ⟨fun c => out _ _ _ _ _ (hΦ l fr ln m (k_exN c) hl hy hln hsn), fun c => ?_⟩⟩
      have eb : ((((P.2 (r + 1) a &&& (m ^^^ (-1))) >>> (nI x &&& 31)) &&& 1) = 1) = (k_b (P.2 (r + 1) a) x = true ∧ x ∉ l) := by
        rw [k_and1, k_bshr (by omega), k_band, k_bxor, k_bm1 x (by omega), hsn x (by omega)]
        by_cases e : x ∈ l <;> simp [e]
      rw [eb]
      rw [k_ex, if_pos (by omega)] at hΦ
      refine ⟨fun c2 => ?_, fun c2 => ?_⟩
      · rw [if_pos c2] at hΦ
        refine ⟨vp_in_nI (by omega) (by omega), ?_⟩
        rw [sw, sw, k_waa, k_waa]
        have := ih (x + 1) (l ++ [x]) (va_up fr x (nI a)) (va_up ln l.length (nI x)) (m ||| ((1 : Int32) <<< (nI x &&& 31))) (by omega) (by simp; omega) ?_ ?_ ?_ hΦ
        · rw [List.length_append] at this
          exact this
        · intro y hy2
          rw [List.mem_append, List.mem_singleton] at hy2
          rcases hy2 with hy2 | rfl
          · exact hy y hy2
          · omega
        · intro i z hi
          by_cases e : i = l.length
          · subst e
            rw [List.getElem?_append_right (Nat.le_refl _), Nat.sub_self] at hi
            simp at hi
            rw [up_s, hi]
          · rw [up_n e]
            by_cases e2 : i < l.length
            · rw [List.getElem?_append_left e2] at hi
              exact hln i z hi
            · rw [List.getElem?_eq_none (by simp; omega)] at hi
              cases hi
        · intro i hi
          rw [k_bor, hsn i hi, k_bone x (by omega) i (by omega)]
          by_cases e : x = i
          · subst e; simp
          · simp [e, Ne.symm e]
      · rw [if_neg c2] at hΦ
        exact ih (x + 1) l fr ln m (by omega) hl hy hln hsn hΦ
  have outer : ∀ f hd l fr ln m w5 w6, hd + f = 12 → l.length ≤ 12 → (∀ y ∈ l, y < 12) → k_lne l ln → k_sn l m → E = k_bf (P.2 (r + 1)) s hd f l fr →
      e_Sm g 31 6 cd31 Ψ 35 [some (.ref r), some (.int (nI s)), some (.int m), some (.int (nI l.length)), some (.int (nI hd)), w5, w6] [] (K_H Z (k_wa (k_wa P (r + 4) ln) (r + 3) fr) U h) := by
    intro f
    induction f with
    | zero =>
      intro hd l fr ln m w5 w6 hh hl hy hln hsn he
      rw [k_bf] at he
      rw [u31_35]
      simp (decide := true) (disch := first | assumption | omega) only [↓u31_0, ↓u31_10, ↓u31_12, ↓u31_80, ↓u31_143, ↓u31_149, ↓u31_155, ↓x_nil, ↓x_om, ↓x_iload_1, ↓x_if_lt, ↓x_bipush_12, ↓x_icmp_lt, ↓x_iconst_0, ↓x_ireturn, rt31, ↓x_iconst_1, ↓x_ishl, ↓x_istore_2, x_cl_i, x_cl_r, x_cl_n, x_cl_q, x_cl_0, x_cl_l, ↓x_istore_3, ↓x_aload_0r, ↓x_aload_0n, ↓x_aload_0q, ↓x_getfield, ft_6_21, ↓x_iastore, ft_6_18, ↓x_iconst_m1, ↓x_istore_4, ↓x_iload_4, ↓x_iload_3, ↓x_icmp_ge, ↓x_iaload, ↓x_istore_5, ft_6_9, ↓x_iload_5, ↓x_ishr, ↓x_iand, ↓x_icmp_ne, ↓x_invokevirtual, mt_6_34, x_ps0, x_ps1, x_l40, x_l41, x_l42, x_l43, x_l44, ↓x_cv1, ↓x_istore_6, ↓x_iload_6, ↓x_iload_2, ↓x_ixor, ↓x_ior, ↓x_iinc_3_1, ↓x_iinc_6_1, ↓x_goto, ↓x_iinc_4_1, Int.reduceAdd, Nat.reduceAdd, true_and, and_true, true_or, or_true, false_or, or_false, reduceCtorEq, false_and, and_false, and_self, or_self, false_implies, true_implies, not_true_eq_false, not_false_eq_true, implies_true, Option.some.injEq, i_add, i_a1, i_m8, i_m5, i_m401, i_40, i_80, i_r40, i_s1, i_am1, i_sub, i_lt, i_le, i_eq, i_m1, il_le_0, il_ge_0, il_lt_0, il_gt_0, il_eq_0, il_le_1, il_ge_1, il_lt_1, il_gt_1, il_eq_1, il_le_2, il_ge_2, il_lt_2, il_gt_2, il_eq_2, il_le_3, il_ge_3, il_lt_3, il_gt_3, il_eq_3, il_le_4, il_ge_4, il_lt_4, il_gt_4, il_eq_4, il_le_5, il_ge_5, il_lt_5, il_gt_5, il_eq_5, il_le_6, il_ge_6, il_lt_6, il_gt_6, il_eq_6, il_le_7, il_ge_7, il_lt_7, il_gt_7, il_eq_7, il_le_8, il_ge_8, il_lt_8, il_gt_8, il_eq_8, il_le_12, il_ge_12, il_lt_12, il_gt_12, il_eq_12, il_le_16, il_ge_16, il_lt_16, il_gt_16, il_eq_16, il_le_20, il_ge_20, il_lt_20, il_gt_20, il_eq_20, il_le_21, il_ge_21, il_lt_21, il_gt_21, il_eq_21, il_le_40, il_ge_40, il_lt_40, il_gt_40, il_eq_40, il_le_100, il_ge_100, il_lt_100, il_gt_100, il_eq_100, il_le_120, il_ge_120, il_lt_120, il_gt_120, il_eq_120, il_le_200, il_ge_200, il_lt_200, il_gt_200, il_eq_200, il_le_400, il_ge_400, il_lt_400, il_gt_400, il_eq_400, il_le_700, il_ge_700, il_lt_700, il_gt_700, il_eq_700, kg6, kv6_3, kgI5, kgI8, kgI12, kgI16, kwI5, kwI8, kwI12, kwI16, k_as, k_a1, k_r2, i_in, i_cl, kv6_2, kv6_0, ki6, up_s, up_n]
      exact ⟨fun _ => q _ _ _ he, fun _ => ⟨fun _ => q _ _ _ he, fun c => by omega⟩⟩
    | succ f ih =>
      intro hd l fr ln m w5 w6 hh hl hy hln hsn he
      rw [k_bf] at he
      rw [u31_35]
      by_cases c : hd < l.length
      · have hi : l[hd]? = some l[hd] := List.getElem?_eq_getElem c
        have ha : l[hd] < 12 := hy _ (List.getElem_mem c)
        have hv := hln hd _ hi
        rw [hi] at he
        dsimp only at he
        generalize l[hd] = a at he ha hv
        simp (decide := true) (disch := first | assumption | omega) only [↓u31_0, ↓u31_10, ↓u31_12, ↓u31_143, ↓u31_149, ↓u31_155, ↓x_nil, ↓x_om, ↓x_iload_1, ↓x_if_lt, ↓x_bipush_12, ↓x_icmp_lt, ↓x_iconst_0, ↓x_ireturn, rt31, ↓x_iconst_1, ↓x_ishl, ↓x_istore_2, x_cl_i, x_cl_r, x_cl_n, x_cl_q, x_cl_0, x_cl_l, ↓x_istore_3, ↓x_aload_0r, ↓x_aload_0n, ↓x_aload_0q, ↓x_getfield, ft_6_21, ↓x_iastore, ft_6_18, ↓x_iconst_m1, ↓x_istore_4, ↓x_iload_4, ↓x_iload_3, ↓x_icmp_ge, ↓x_iaload, ↓x_istore_5, ft_6_9, ↓x_iload_5, ↓x_ishr, ↓x_iand, ↓x_icmp_ne, ↓x_invokevirtual, mt_6_34, x_ps0, x_ps1, x_l40, x_l41, x_l42, x_l43, x_l44, ↓x_cv1, ↓x_istore_6, ↓x_iload_6, ↓x_iload_2, ↓x_ixor, ↓x_ior, ↓x_iinc_3_1, ↓x_iinc_6_1, ↓x_goto, ↓x_iinc_4_1, Int.reduceAdd, Nat.reduceAdd, true_and, and_true, true_or, or_true, false_or, or_false, reduceCtorEq, false_and, and_false, and_self, or_self, false_implies, true_implies, not_true_eq_false, not_false_eq_true, implies_true, Option.some.injEq, i_add, i_a1, i_m8, i_m5, i_m401, i_40, i_80, i_r40, i_s1, i_am1, i_sub, i_lt, i_le, i_eq, i_m1, il_le_0, il_ge_0, il_lt_0, il_gt_0, il_eq_0, il_le_1, il_ge_1, il_lt_1, il_gt_1, il_eq_1, il_le_2, il_ge_2, il_lt_2, il_gt_2, il_eq_2, il_le_3, il_ge_3, il_lt_3, il_gt_3, il_eq_3, il_le_4, il_ge_4, il_lt_4, il_gt_4, il_eq_4, il_le_5, il_ge_5, il_lt_5, il_gt_5, il_eq_5, il_le_6, il_ge_6, il_lt_6, il_gt_6, il_eq_6, il_le_7, il_ge_7, il_lt_7, il_gt_7, il_eq_7, il_le_8, il_ge_8, il_lt_8, il_gt_8, il_eq_8, il_le_12, il_ge_12, il_lt_12, il_gt_12, il_eq_12, il_le_16, il_ge_16, il_lt_16, il_gt_16, il_eq_16, il_le_20, il_ge_20, il_lt_20, il_gt_20, il_eq_20, il_le_21, il_ge_21, il_lt_21, il_gt_21, il_eq_21, il_le_40, il_ge_40, il_lt_40, il_gt_40, il_eq_40, il_le_100, il_ge_100, il_lt_100, il_gt_100, il_eq_100, il_le_120, il_ge_120, il_lt_120, il_gt_120, il_eq_120, il_le_200, il_ge_200, il_lt_200, il_gt_200, il_eq_200, il_le_400, il_ge_400, il_lt_400, il_gt_400, il_eq_400, il_le_700, il_ge_700, il_lt_700, il_gt_700, il_eq_700, k_an, hv, kg6, kv6_3, kgI5, kgI8, kgI12, kgI16, kwI5, kwI8, kwI12, kwI16, k_as, k_a1, k_r2, i_in, i_cl, kv6_2, kv6_0, ki6, up_s, up_n]
        refine ⟨fun c2 => by omega, fun _ => ⟨fun c2 => by omega, fun _ => ?_⟩⟩
        rw [show (((P.2 (r + 1) a >>> (nI s &&& 31)) &&& 1) = 1) = (k_b (P.2 (r + 1) a) s = true) from by rw [k_and1, k_bshr (by omega)]]
        refine ⟨fun c2 => h_writeDown hg t t2 t3 t5 ?_, fun c2 => ?_⟩
        · rw [if_pos c2] at he
          simp (decide := true) (disch := first | assumption | omega) only [↓u31_0, ↓u31_10, ↓u31_12, ↓u31_80, ↓u31_143, ↓u31_149, ↓u31_155, ↓x_nil, ↓x_om, ↓x_iload_1, ↓x_if_lt, ↓x_bipush_12, ↓x_icmp_lt, ↓x_iconst_0, ↓x_ireturn, rt31, ↓x_iconst_1, ↓x_ishl, ↓x_istore_2, x_cl_i, x_cl_r, x_cl_n, x_cl_q, x_cl_0, x_cl_l, ↓x_istore_3, ↓x_aload_0r, ↓x_aload_0n, ↓x_aload_0q, ↓x_getfield, ft_6_21, ↓x_iastore, ft_6_18, ↓x_iconst_m1, ↓x_istore_4, ↓x_iload_4, ↓x_iload_3, ↓x_icmp_ge, ↓x_iaload, ↓x_istore_5, ft_6_9, ↓x_iload_5, ↓x_ishr, ↓x_iand, ↓x_icmp_ne, ↓x_invokevirtual, mt_6_34, x_ps0, x_ps1, x_l40, x_l41, x_l42, x_l43, x_l44, ↓x_cv1, ↓x_istore_6, ↓x_iload_6, ↓x_iload_2, ↓x_ixor, ↓x_ior, ↓x_iinc_3_1, ↓x_iinc_6_1, ↓x_goto, ↓x_iinc_4_1, Int.reduceAdd, Nat.reduceAdd, true_and, and_true, true_or, or_true, false_or, or_false, reduceCtorEq, false_and, and_false, and_self, or_self, false_implies, true_implies, not_true_eq_false, not_false_eq_true, implies_true, Option.some.injEq, i_add, i_a1, i_m8, i_m5, i_m401, i_40, i_80, i_r40, i_s1, i_am1, i_sub, i_lt, i_le, i_eq, i_m1, il_le_0, il_ge_0, il_lt_0, il_gt_0, il_eq_0, il_le_1, il_ge_1, il_lt_1, il_gt_1, il_eq_1, il_le_2, il_ge_2, il_lt_2, il_gt_2, il_eq_2, il_le_3, il_ge_3, il_lt_3, il_gt_3, il_eq_3, il_le_4, il_ge_4, il_lt_4, il_gt_4, il_eq_4, il_le_5, il_ge_5, il_lt_5, il_gt_5, il_eq_5, il_le_6, il_ge_6, il_lt_6, il_gt_6, il_eq_6, il_le_7, il_ge_7, il_lt_7, il_gt_7, il_eq_7, il_le_8, il_ge_8, il_lt_8, il_gt_8, il_eq_8, il_le_12, il_ge_12, il_lt_12, il_gt_12, il_eq_12, il_le_16, il_ge_16, il_lt_16, il_gt_16, il_eq_16, il_le_20, il_ge_20, il_lt_20, il_gt_20, il_eq_20, il_le_21, il_ge_21, il_lt_21, il_gt_21, il_eq_21, il_le_40, il_ge_40, il_lt_40, il_gt_40, il_eq_40, il_le_100, il_ge_100, il_lt_100, il_gt_100, il_eq_100, il_le_120, il_ge_120, il_lt_120, il_gt_120, il_eq_120, il_le_200, il_ge_200, il_lt_200, il_gt_200, il_eq_200, il_le_400, il_ge_400, il_lt_400, il_gt_400, il_eq_400, il_le_700, il_ge_700, il_lt_700, il_gt_700, il_eq_700, kg6, kv6_3, kgI5, kgI8, kgI12, kgI16, kwI5, kwI8, kwI12, kwI16, k_as, k_a1, k_r2, i_in, i_cl, kv6_2, kv6_0, ki6, up_s, up_n]
          exact q2 _ _ _ _ he
        · rw [if_neg c2] at he
          rw [u31_80]
          simp (decide := true) (disch := first | assumption | omega) only [↓u31_0, ↓u31_10, ↓u31_12, ↓u31_80, ↓u31_143, ↓u31_149, ↓u31_155, ↓x_nil, ↓x_om, ↓x_iload_1, ↓x_if_lt, ↓x_bipush_12, ↓x_icmp_lt, ↓x_iconst_0, ↓x_ireturn, rt31, ↓x_iconst_1, ↓x_ishl, ↓x_istore_2, x_cl_i, x_cl_r, x_cl_n, x_cl_q, x_cl_0, x_cl_l, ↓x_istore_3, ↓x_aload_0r, ↓x_aload_0n, ↓x_aload_0q, ↓x_getfield, ft_6_21, ↓x_iastore, ft_6_18, ↓x_iconst_m1, ↓x_istore_4, ↓x_iload_4, ↓x_iload_3, ↓x_icmp_ge, ↓x_iaload, ↓x_istore_5, ft_6_9, ↓x_iload_5, ↓x_ishr, ↓x_iand, ↓x_icmp_ne, ↓x_invokevirtual, mt_6_34, x_ps0, x_ps1, x_l40, x_l41, x_l42, x_l43, x_l44, ↓x_cv1, ↓x_istore_6, ↓x_iload_6, ↓x_iload_2, ↓x_ixor, ↓x_ior, ↓x_iinc_3_1, ↓x_iinc_6_1, ↓x_goto, ↓x_iinc_4_1, Int.reduceAdd, Nat.reduceAdd, true_and, and_true, true_or, or_true, false_or, or_false, reduceCtorEq, false_and, and_false, and_self, or_self, false_implies, true_implies, not_true_eq_false, not_false_eq_true, implies_true, Option.some.injEq, i_add, i_a1, i_m8, i_m5, i_m401, i_40, i_80, i_r40, i_s1, i_am1, i_sub, i_lt, i_le, i_eq, i_m1, il_le_0, il_ge_0, il_lt_0, il_gt_0, il_eq_0, il_le_1, il_ge_1, il_lt_1, il_gt_1, il_eq_1, il_le_2, il_ge_2, il_lt_2, il_gt_2, il_eq_2, il_le_3, il_ge_3, il_lt_3, il_gt_3, il_eq_3, il_le_4, il_ge_4, il_lt_4, il_gt_4, il_eq_4, il_le_5, il_ge_5, il_lt_5, il_gt_5, il_eq_5, il_le_6, il_ge_6, il_lt_6, il_gt_6, il_eq_6, il_le_7, il_ge_7, il_lt_7, il_gt_7, il_eq_7, il_le_8, il_ge_8, il_lt_8, il_gt_8, il_eq_8, il_le_12, il_ge_12, il_lt_12, il_gt_12, il_eq_12, il_le_16, il_ge_16, il_lt_16, il_gt_16, il_eq_16, il_le_20, il_ge_20, il_lt_20, il_gt_20, il_eq_20, il_le_21, il_ge_21, il_lt_21, il_gt_21, il_eq_21, il_le_40, il_ge_40, il_lt_40, il_gt_40, il_eq_40, il_le_100, il_ge_100, il_lt_100, il_gt_100, il_eq_100, il_le_120, il_ge_120, il_lt_120, il_gt_120, il_eq_120, il_le_200, il_ge_200, il_lt_200, il_gt_200, il_eq_200, il_le_400, il_ge_400, il_lt_400, il_gt_400, il_eq_400, il_le_700, il_ge_700, il_lt_700, il_gt_700, il_eq_700, kg6, kv6_3, kgI5, kgI8, kgI12, kgI16, kwI5, kwI8, kwI12, kwI16, k_as, k_a1, k_r2, i_in, i_cl, kv6_2, kv6_0, ki6, up_s, up_n]
          refine inner a hd (fun l' fr' ln' m' => l'.length ≤ 12 ∧ (∀ y ∈ l', y < 12) ∧ k_lne l' ln' ∧ k_sn l' m' ∧ E = k_bf (P.2 (r + 1)) s (hd + 1) f l' fr') ha (by omega) (fun l' fr' ln' m' w6 hΦ => ?_) 12 0 l fr ln m rfl hl hy hln hsn (fun l' fr' ln' m' e1 e2 e3 e4 e5 => ?_)
          · rw [u31_149]
            simp (decide := true) (disch := first | assumption | omega) only [↓u31_0, ↓u31_10, ↓u31_12, ↓u31_80, ↓u31_143, ↓u31_149, ↓u31_155, ↓x_nil, ↓x_om, ↓x_iload_1, ↓x_if_lt, ↓x_bipush_12, ↓x_icmp_lt, ↓x_iconst_0, ↓x_ireturn, rt31, ↓x_iconst_1, ↓x_ishl, ↓x_istore_2, x_cl_i, x_cl_r, x_cl_n, x_cl_q, x_cl_0, x_cl_l, ↓x_istore_3, ↓x_aload_0r, ↓x_aload_0n, ↓x_aload_0q, ↓x_getfield, ft_6_21, ↓x_iastore, ft_6_18, ↓x_iconst_m1, ↓x_istore_4, ↓x_iload_4, ↓x_iload_3, ↓x_icmp_ge, ↓x_iaload, ↓x_istore_5, ft_6_9, ↓x_iload_5, ↓x_ishr, ↓x_iand, ↓x_icmp_ne, ↓x_invokevirtual, mt_6_34, x_ps0, x_ps1, x_l40, x_l41, x_l42, x_l43, x_l44, ↓x_cv1, ↓x_istore_6, ↓x_iload_6, ↓x_iload_2, ↓x_ixor, ↓x_ior, ↓x_iinc_3_1, ↓x_iinc_6_1, ↓x_goto, ↓x_iinc_4_1, Int.reduceAdd, Nat.reduceAdd, true_and, and_true, true_or, or_true, false_or, or_false, reduceCtorEq, false_and, and_false, and_self, or_self, false_implies, true_implies, not_true_eq_false, not_false_eq_true, implies_true, Option.some.injEq, i_add, i_a1, i_m8, i_m5, i_m401, i_40, i_80, i_r40, i_s1, i_am1, i_sub, i_lt, i_le, i_eq, i_m1, il_le_0, il_ge_0, il_lt_0, il_gt_0, il_eq_0, il_le_1, il_ge_1, il_lt_1, il_gt_1, il_eq_1, il_le_2, il_ge_2, il_lt_2, il_gt_2, il_eq_2, il_le_3, il_ge_3, il_lt_3, il_gt_3, il_eq_3, il_le_4, il_ge_4, il_lt_4, il_gt_4, il_eq_4, il_le_5, il_ge_5, il_lt_5, il_gt_5, il_eq_5, il_le_6, il_ge_6, il_lt_6, il_gt_6, il_eq_6, il_le_7, il_ge_7, il_lt_7, il_gt_7, il_eq_7, il_le_8, il_ge_8, il_lt_8, il_gt_8, il_eq_8, il_le_12, il_ge_12, il_lt_12, il_gt_12, il_eq_12, il_le_16, il_ge_16, il_lt_16, il_gt_16, il_eq_16, il_le_20, il_ge_20, il_lt_20, il_gt_20, il_eq_20, il_le_21, il_ge_21, il_lt_21, il_gt_21, il_eq_21, il_le_40, il_ge_40, il_lt_40, il_gt_40, il_eq_40, il_le_100, il_ge_100, il_lt_100, il_gt_100, il_eq_100, il_le_120, il_ge_120, il_lt_120, il_gt_120, il_eq_120, il_le_200, il_ge_200, il_lt_200, il_gt_200, il_eq_200, il_le_400, il_ge_400, il_lt_400, il_gt_400, il_eq_400, il_le_700, il_ge_700, il_lt_700, il_gt_700, il_eq_700, kg6, kv6_3, kgI5, kgI8, kgI12, kgI16, kwI5, kwI8, kwI12, kwI16, k_as, k_a1, k_r2, i_in, i_cl, kv6_2, kv6_0, ki6, up_s, up_n]
            exact ih (hd + 1) l' fr' ln' m' _ _ (by omega) hΦ.1 hΦ.2.1 hΦ.2.2.1 hΦ.2.2.2.1 hΦ.2.2.2.2
          · refine ⟨e2, e3, e4, e5, ?_⟩
            rw [e1] at he
            exact he
      · rw [List.getElem?_eq_none (by omega)] at he
        simp (decide := true) (disch := first | assumption | omega) only [↓u31_0, ↓u31_10, ↓u31_12, ↓u31_80, ↓u31_143, ↓u31_149, ↓u31_155, ↓x_nil, ↓x_om, ↓x_iload_1, ↓x_if_lt, ↓x_bipush_12, ↓x_icmp_lt, ↓x_iconst_0, ↓x_ireturn, rt31, ↓x_iconst_1, ↓x_ishl, ↓x_istore_2, x_cl_i, x_cl_r, x_cl_n, x_cl_q, x_cl_0, x_cl_l, ↓x_istore_3, ↓x_aload_0r, ↓x_aload_0n, ↓x_aload_0q, ↓x_getfield, ft_6_21, ↓x_iastore, ft_6_18, ↓x_iconst_m1, ↓x_istore_4, ↓x_iload_4, ↓x_iload_3, ↓x_icmp_ge, ↓x_iaload, ↓x_istore_5, ft_6_9, ↓x_iload_5, ↓x_ishr, ↓x_iand, ↓x_icmp_ne, ↓x_invokevirtual, mt_6_34, x_ps0, x_ps1, x_l40, x_l41, x_l42, x_l43, x_l44, ↓x_cv1, ↓x_istore_6, ↓x_iload_6, ↓x_iload_2, ↓x_ixor, ↓x_ior, ↓x_iinc_3_1, ↓x_iinc_6_1, ↓x_goto, ↓x_iinc_4_1, Int.reduceAdd, Nat.reduceAdd, true_and, and_true, true_or, or_true, false_or, or_false, reduceCtorEq, false_and, and_false, and_self, or_self, false_implies, true_implies, not_true_eq_false, not_false_eq_true, implies_true, Option.some.injEq, i_add, i_a1, i_m8, i_m5, i_m401, i_40, i_80, i_r40, i_s1, i_am1, i_sub, i_lt, i_le, i_eq, i_m1, il_le_0, il_ge_0, il_lt_0, il_gt_0, il_eq_0, il_le_1, il_ge_1, il_lt_1, il_gt_1, il_eq_1, il_le_2, il_ge_2, il_lt_2, il_gt_2, il_eq_2, il_le_3, il_ge_3, il_lt_3, il_gt_3, il_eq_3, il_le_4, il_ge_4, il_lt_4, il_gt_4, il_eq_4, il_le_5, il_ge_5, il_lt_5, il_gt_5, il_eq_5, il_le_6, il_ge_6, il_lt_6, il_gt_6, il_eq_6, il_le_7, il_ge_7, il_lt_7, il_gt_7, il_eq_7, il_le_8, il_ge_8, il_lt_8, il_gt_8, il_eq_8, il_le_12, il_ge_12, il_lt_12, il_gt_12, il_eq_12, il_le_16, il_ge_16, il_lt_16, il_gt_16, il_eq_16, il_le_20, il_ge_20, il_lt_20, il_gt_20, il_eq_20, il_le_21, il_ge_21, il_lt_21, il_gt_21, il_eq_21, il_le_40, il_ge_40, il_lt_40, il_gt_40, il_eq_40, il_le_100, il_ge_100, il_lt_100, il_gt_100, il_eq_100, il_le_120, il_ge_120, il_lt_120, il_gt_120, il_eq_120, il_le_200, il_ge_200, il_lt_200, il_gt_200, il_eq_200, il_le_400, il_ge_400, il_lt_400, il_gt_400, il_eq_400, il_le_700, il_ge_700, il_lt_700, il_gt_700, il_eq_700, kg6, kv6_3, kgI5, kgI8, kgI12, kgI16, kwI5, kwI8, kwI12, kwI16, k_as, k_a1, k_r2, i_in, i_cl, kv6_2, kv6_0, ki6, up_s, up_n]
        exact ⟨fun _ => q _ _ _ he, fun c2 => by omega⟩
  simp (decide := true) (disch := first | assumption | omega) only [↓u31_0, ↓u31_10, ↓u31_12, ↓u31_80, ↓u31_143, ↓u31_149, ↓u31_155, ↓x_nil, ↓x_om, ↓x_iload_1, ↓x_if_lt, ↓x_bipush_12, ↓x_icmp_lt, ↓x_iconst_0, ↓x_ireturn, rt31, ↓x_iconst_1, ↓x_ishl, ↓x_istore_2, x_cl_i, x_cl_r, x_cl_n, x_cl_q, x_cl_0, x_cl_l, ↓x_istore_3, ↓x_aload_0r, ↓x_aload_0n, ↓x_aload_0q, ↓x_getfield, ft_6_21, ↓x_iastore, ft_6_18, ↓x_iconst_m1, ↓x_istore_4, ↓x_iload_4, ↓x_iload_3, ↓x_icmp_ge, ↓x_iaload, ↓x_istore_5, ft_6_9, ↓x_iload_5, ↓x_ishr, ↓x_iand, ↓x_icmp_ne, ↓x_invokevirtual, mt_6_34, x_ps0, x_ps1, x_l40, x_l41, x_l42, x_l43, x_l44, ↓x_cv1, ↓x_istore_6, ↓x_iload_6, ↓x_iload_2, ↓x_ixor, ↓x_ior, ↓x_iinc_3_1, ↓x_iinc_6_1, ↓x_goto, ↓x_iinc_4_1, Int.reduceAdd, Nat.reduceAdd, true_and, and_true, true_or, or_true, false_or, or_false, reduceCtorEq, false_and, and_false, and_self, or_self, false_implies, true_implies, not_true_eq_false, not_false_eq_true, implies_true, Option.some.injEq, i_add, i_a1, i_m8, i_m5, i_m401, i_40, i_80, i_r40, i_s1, i_am1, i_sub, i_lt, i_le, i_eq, i_m1, il_le_0, il_ge_0, il_lt_0, il_gt_0, il_eq_0, il_le_1, il_ge_1, il_lt_1, il_gt_1, il_eq_1, il_le_2, il_ge_2, il_lt_2, il_gt_2, il_eq_2, il_le_3, il_ge_3, il_lt_3, il_gt_3, il_eq_3, il_le_4, il_ge_4, il_lt_4, il_gt_4, il_eq_4, il_le_5, il_ge_5, il_lt_5, il_gt_5, il_eq_5, il_le_6, il_ge_6, il_lt_6, il_gt_6, il_eq_6, il_le_7, il_ge_7, il_lt_7, il_gt_7, il_eq_7, il_le_8, il_ge_8, il_lt_8, il_gt_8, il_eq_8, il_le_12, il_ge_12, il_lt_12, il_gt_12, il_eq_12, il_le_16, il_ge_16, il_lt_16, il_gt_16, il_eq_16, il_le_20, il_ge_20, il_lt_20, il_gt_20, il_eq_20, il_le_21, il_ge_21, il_lt_21, il_gt_21, il_eq_21, il_le_40, il_ge_40, il_lt_40, il_gt_40, il_eq_40, il_le_100, il_ge_100, il_lt_100, il_gt_100, il_eq_100, il_le_120, il_ge_120, il_lt_120, il_gt_120, il_eq_120, il_le_200, il_ge_200, il_lt_200, il_gt_200, il_eq_200, il_le_400, il_ge_400, il_lt_400, il_gt_400, il_eq_400, il_le_700, il_ge_700, il_lt_700, il_gt_700, il_eq_700, k_an, tc0, kg6, kv6_3, kgI5, kgI8, kgI12, kgI16, kwI5, kwI8, kwI12, kwI16, k_as, k_a1, k_r2, i_in, i_cl, kv6_2, kv6_0, ki6, up_s, up_n]
  refine ⟨fun c => by omega, fun _ => ⟨fun _ => ⟨by unfold vp_in; decide, ?_⟩, fun c => by omega⟩⟩
  refine outer 12 0 [s] _ _ _ _ _ rfl (by simp) (fun y hy => by rw [List.mem_singleton] at hy; omega) (fun i x hi => ?_) (fun i hi => ?_) hE.symm
  · cases i with
    | zero => simp at hi; rw [up_s, hi]
    | succ i => simp at hi
  · rw [k_bone s (by omega) i (by omega)]
    by_cases e : s = i
    · subst e; simp
    · simp [e, Ne.symm e]
end KR
