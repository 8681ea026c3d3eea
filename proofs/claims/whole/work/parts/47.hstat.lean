/-! the class's static methods; what a Report and a Thing do -/
section KB
variable {g : e_G} {Ψ : e_Q} {h : e_Hp}
theorem n_of {x : Int32} (h : 0 ≤ x) : ∃ n, x = nI n ∧ n ≤ 2147483647 := by
  have h2 : 0 ≤ x.toInt := Int32.le_iff_toInt_le.mp h
  have h3 := x.toInt_lt
  refine ⟨x.toInt.toNat, ?_, by omega⟩
  apply Int32.toInt_inj.mp
  rw [nI_toInt (by omega)]
  omega
theorem n_of2 {x : Int32} {m : Nat} (h : 0 ≤ x) (h2 : x < nI m) (hm : m ≤ 2000000000) : ∃ n, x = nI n ∧ n < m := by
  obtain ⟨n, rfl, hn⟩ := n_of h
  refine ⟨n, rfl, ?_⟩
  have h3 := Int32.lt_iff_toInt_lt.mp h2
  rw [nI_toInt (by omega), nI_toInt (by omega)] at h3
  omega
theorem n_ofL {x : Int32} {m : Nat} {y : Int32} (hy : y = nI m) (h : 0 ≤ x) (h2 : x < y) (hm : m ≤ 2000000000) : ∃ n, x = nI n ∧ n < m := n_of2 h (hy ▸ h2) hm
def k_hv (s : Int32) : Bool := s == 1 || s == 2 || s == 6
theorem h_hasValue (hg : e_GK g) {s : Int32} (q : Ψ (some (.int (b_v (k_hv s)))) h) : e_Sc g 118 [.int s] h Ψ := by
  refine e_call (cd := cd118) hg ok118 (by rw [mL118]; exact Nat.le_of_ble_eq_true rfl) ?_
  rw [mL118]
  simp only [x_ini, x_inr, x_inn, x_inq, x_inl, x_in0, x_rp0, x_rps, Nat.reduceSub]
  simp (decide := true) (disch := first | assumption | omega) only [↓u118_0, ↓u118_16, ↓u118_20, ↓u118_21, ↓x_nil, ↓x_om, ↓x_iload_0, ↓x_iconst_1, ↓x_icmp_eq, ↓x_iconst_2, ↓x_bipush_6, ↓x_icmp_ne, ↓x_goto, ↓x_iconst_0, ↓x_ireturn, rt118, Int.reduceAdd, Nat.reduceAdd, true_and, and_true, true_or, or_true, false_or, or_false, reduceCtorEq, false_and, and_false, and_self, or_self, false_implies, true_implies, not_true_eq_false, not_false_eq_true, implies_true, Option.some.injEq, up_s, up_n]
  repeat' (first | refine And.intro ?_ ?_ | intro c)
  all_goals exact b_q q (by simp_all (decide := true) [k_hv, b_v])
theorem sh_t : ∀ k, k < 22 → ∀ s, s < 8 → ((([(198 : Int32), 66, 66, 4, 8, 8, 8, 56, 16, 16, 16, 16, 32, 32, 32, 64, 64, 128, 128, 64, 1, 255].getD k 0) >>> (nI s &&& 31)) &&& 1 = 1) = (y_has (nI s) (nI k) = true) := by decide +kernel
theorem h_sortHas (hg : e_GK g) {s : Nat} {k : Int32} (hs : s < 8) (q : Ψ (some (.int (b_v (y_isIn k 0 21 && y_has (nI s) k)))) h) : e_Sc g 119 [.int (nI s), .int k] h Ψ := by
  refine e_call (cd := cd119) hg ok119 (by rw [mL119]; exact Nat.le_of_ble_eq_true rfl) ?_
  rw [mL119]
  simp only [x_ini, x_inr, x_inn, x_inq, x_inl, x_in0, x_rp0, x_rps, Nat.reduceSub]
  simp (decide := true) (disch := first | assumption | omega) only [↓u119_0, ↓u119_27, ↓u119_28, ↓x_nil, ↓x_om, ↓x_iload_1, ↓x_if_lt, ↓x_bipush_22, ↓x_icmp_ge, ↓x_getstatic, ↓x_iaload, ↓x_iload_0, ↓x_ishr, ↓x_iconst_1, ↓x_iand, ↓x_icmp_ne, ↓x_goto, ↓x_iconst_0, ↓x_ireturn, rt119, Int.reduceAdd, Nat.reduceAdd, true_and, and_true, true_or, or_true, false_or, or_false, reduceCtorEq, false_and, and_false, and_self, or_self, false_implies, true_implies, not_true_eq_false, not_false_eq_true, implies_true, Option.some.injEq, kgI5, kgI8, kgI12, kgI16, kwI5, kwI8, kwI12, kwI16, k_as, k_a1, k_r2, i_in, i_cl, up_s, up_n]
  refine ⟨fun c => b_q q ?_, fun c => ⟨fun c2 => b_q q ?_, fun c2 => ?_⟩⟩
  · rw [b_vf]; simp [y_isIn, Int32.not_le.mpr c]
  · rw [b_vf]; rw [Bool.and_eq_false_iff]; left; simp only [y_isIn, Bool.and_eq_false_iff]; right; exact decide_eq_false (Int32.not_le.mpr (Int32.lt_of_lt_of_le (by decide) c2))
  · obtain ⟨n, rfl, hn⟩ := n_ofL (m := 22) (by decide) (Int32.not_lt.mp c) (Int32.not_le.mp c2) (by decide)
    have e : y_isIn (nI n) 0 21 = true := by
      simp only [y_isIn, Bool.and_eq_true, decide_eq_true_eq]
      exact ⟨Int32.not_lt.mp c, by rw [show (21 : Int32) = nI 21 from by decide]; exact nI_le (by omega) (by omega)⟩
    refine ⟨vp_in_nI hn (by decide), ?_⟩
    rw [nI_clamp (by omega)]
    have t := sh_t n hn s hs
    rw [e, Bool.true_and] at q
    show (_ ∧ _)
    simp only [e_stI, t]
    revert q
    generalize y_has (nI s) (nI n) = b
    intro q
    cases b
    · exact ⟨fun z => by simp at z, fun _ => q⟩
    · exact ⟨fun _ => q, fun z => absurd rfl z⟩
theorem rd_t : ∀ k, k < 22 → (((1330369 : Int32) >>> (nI k &&& 31)) &&& 1 = 1) = ((nI k == 0 || nI k == 6 || nI k == 7 || nI k == 10 || nI k == 11 || nI k == 14 || nI k == 18 || nI k == 20) = true) := by decide +kernel
theorem h_isReading (hg : e_GK g) {k : Nat} {a : Int32} (hk : k < 22) (q : Ψ (some (.int (b_v (y_rd (nI k) a)))) h) : e_Sc g 120 [.int (nI k), .int a] h Ψ := by
  refine e_call (cd := cd120) hg ok120 (by rw [mL120]; exact Nat.le_of_ble_eq_true rfl) ?_
  rw [mL120]
  simp only [x_ini, x_inr, x_inn, x_inq, x_inl, x_in0, x_rp0, x_rps, Nat.reduceSub]
  simp (decide := true) (disch := first | assumption | omega) only [↓u120_0, ↓u120_21, ↓u120_25, ↓u120_26, ↓x_nil, ↓x_om, ↓x_ldc_w, it_12_353, ↓x_iload_0, ↓x_ishr, ↓x_iconst_1, ↓x_iand, ↓x_icmp_eq, ↓x_bipush_21, ↓x_icmp_ne, ↓x_iload_1, ↓x_if_ne, ↓x_goto, ↓x_iconst_0, ↓x_ireturn, rt120, Int.reduceAdd, Nat.reduceAdd, true_and, and_true, true_or, or_true, false_or, or_false, reduceCtorEq, false_and, and_false, and_self, or_self, false_implies, true_implies, not_true_eq_false, not_false_eq_true, implies_true, Option.some.injEq, up_s, up_n]
  have t := rd_t k hk
  simp only [t]
  generalize hr : y_rd (nI k) a = r at q
  unfold y_rd at hr
  generalize (nI k == 0 || nI k == 6 || nI k == 7 || nI k == 10 || nI k == 11 || nI k == 14 || nI k == 18 || nI k == 20) = w at hr ⊢
  repeat' (first | refine And.intro ?_ ?_ | intro c)
  all_goals exact b_q q (by subst hr; simp_all (decide := true) [b_v])
theorem h_isIn (hg : e_GK g) {v a b : Int32} (q : Ψ (some (.int (b_v (y_isIn v a b)))) h) : e_Sc g 123 [.int v, .int a, .int b] h Ψ := by
  refine e_call (cd := cd123) hg ok123 (by rw [mL123]; exact Nat.le_of_ble_eq_true rfl) ?_
  rw [mL123]
  simp only [x_ini, x_inr, x_inn, x_inq, x_inl, x_in0, x_rp0, x_rps, Nat.reduceSub]
  simp (decide := true) (disch := first | assumption | omega) only [↓u123_0, ↓u123_14, ↓u123_15, ↓x_nil, ↓x_om, ↓x_iload_0, ↓x_iload_1, ↓x_icmp_lt, ↓x_iload_2, ↓x_icmp_gt, ↓x_iconst_1, ↓x_goto, ↓x_iconst_0, ↓x_ireturn, rt123, Int.reduceAdd, Nat.reduceAdd, true_and, and_true, true_or, or_true, false_or, or_false, reduceCtorEq, false_and, and_false, and_self, or_self, false_implies, true_implies, not_true_eq_false, not_false_eq_true, implies_true, Option.some.injEq, up_s, up_n]
  refine ⟨fun c => ?_, fun c => ⟨fun c2 => ?_, fun c2 => ?_⟩⟩
  · rw [b_vf (by simp [y_isIn, Int32.not_le.mpr c])] at q; exact q
  · rw [b_vf (by simp [y_isIn, Int32.not_le.mpr c2])] at q; exact q
  · rw [b_vt (by simp [y_isIn, Int32.not_lt.mp c, Int32.not_lt.mp c2])] at q; exact q
def k_fits (k a n : Int32) : Bool :=
  if k = 4 ∨ k = 5 ∨ k = 6 then y_isIn a 0 31 else if k = 12 ∨ k = 13 ∨ k = 14 then y_isIn a 0 7 else if k = 15 ∨ k = 16 ∨ k = 19 then y_isIn a 0 1000
  else if k = 21 then a == 0 || a == 1 else if k = 11 then decide (a ≤ 64) else if k = 17 then decide (-1 ≤ a) && decide (a < n) else y_isIn k 0 21
theorem lt_8 {a : Int32} : (a ≤ 7) = (a < 8) := by
  rw [Int32.le_iff_toInt_le, Int32.lt_iff_toInt_lt]
  have h1 : (7 : Int32).toInt = 7 := by decide
  have h2 : (8 : Int32).toInt = 8 := by decide
  exact propext ⟨fun h => by omega, fun h => by omega⟩
theorem lt_22 {a : Int32} : (a ≤ 21) = (a < 22) := by
  rw [Int32.le_iff_toInt_le, Int32.lt_iff_toInt_lt]
  have h1 : (21 : Int32).toInt = 21 := by decide
  have h2 : (22 : Int32).toInt = 22 := by decide
  exact propext ⟨fun h => by omega, fun h => by omega⟩
theorem in_tr {a lo hi : Int32} (h1 : lo ≤ a) (h2 : a ≤ hi) : y_isIn a lo hi = true := by simp [y_isIn, h1, h2]
theorem in_lo {a lo hi : Int32} (h1 : a < lo) : y_isIn a lo hi = false := by simp [y_isIn, Int32.not_le.mpr h1]
theorem in_hi {a lo hi : Int32} (h1 : hi < a) : y_isIn a lo hi = false := by simp [y_isIn, Int32.not_le.mpr h1]
theorem k_fitsD {k a n : Int32} (h : (k < 4 ∨ 21 < k) ∨ k = 7 ∨ k = 8 ∨ k = 9 ∨ k = 10 ∨ k = 18 ∨ k = 20) : k_fits k a n = y_isIn k 0 21 := by
  have e : ∀ m : Nat, (4 ≤ m ∧ m ≤ 6) ∨ (11 ≤ m ∧ m ≤ 17) ∨ m = 19 ∨ m = 21 → ¬ k = nI m := fun m hm z => by
    subst z
    have f : ∀ j : Nat, j ≤ 20 → nI m = nI j → m = j := fun j hj z => by rw [i_eq (by omega) (by omega)] at z; exact z
    rcases h with (h | h) | h | h | h | h | h | h
    · rw [show (4 : Int32) = nI 4 from by decide, i_lt (by omega) (by omega)] at h; omega
    · rw [show (21 : Int32) = nI 21 from by decide, i_lt (by omega) (by omega)] at h; omega
    · have := f 7 (by omega) h; omega
    · have := f 8 (by omega) h; omega
    · have := f 9 (by omega) h; omega
    · have := f 10 (by omega) h; omega
    · have := f 18 (by omega) h; omega
    · have := f 20 (by omega) h; omega
  have e4 : ¬ k = 4 := e 4 (by omega)
  have e5 : ¬ k = 5 := e 5 (by omega)
  have e6 : ¬ k = 6 := e 6 (by omega)
  have e11 : ¬ k = 11 := e 11 (by omega)
  have e12 : ¬ k = 12 := e 12 (by omega)
  have e13 : ¬ k = 13 := e 13 (by omega)
  have e14 : ¬ k = 14 := e 14 (by omega)
  have e15 : ¬ k = 15 := e 15 (by omega)
  have e16 : ¬ k = 16 := e 16 (by omega)
  have e17 : ¬ k = 17 := e 17 (by omega)
  have e19 : ¬ k = 19 := e 19 (by omega)
  have e21 : ¬ k = 21 := e 21 (by omega)
  unfold k_fits
  rw [if_neg (fun z => by rcases z with z | z | z; exact e4 z; exact e5 z; exact e6 z), if_neg (fun z => by rcases z with z | z | z; exact e12 z; exact e13 z; exact e14 z), if_neg (fun z => by rcases z with z | z | z; exact e15 z; exact e16 z; exact e19 z), if_neg e21, if_neg e11, if_neg e17]
theorem h_fits (hg : e_GK g) {k a n : Int32} (q : Ψ (some (.int (b_v (k_fits k a n)))) h) : e_Sc g 121 [.int k, .int a, .int n] h Ψ := by
  refine e_call (cd := cd121) hg ok121 (by rw [mL121]; exact Nat.le_of_ble_eq_true rfl) ?_
  rw [mL121]
  simp only [x_ini, x_inr, x_inn, x_inq, x_inl, x_in0, x_rp0, x_rps, Nat.reduceSub]
  simp (decide := true) (disch := first | assumption | omega) only [↓u121_0, ↓u121_88, ↓u121_102, ↓u121_103, ↓u121_104, ↓u121_118, ↓u121_119, ↓u121_120, ↓u121_135, ↓u121_136, ↓u121_137, ↓u121_146, ↓u121_150, ↓u121_151, ↓u121_152, ↓u121_162, ↓u121_163, ↓u121_164, ↓u121_178, ↓u121_179, ↓u121_180, ↓u121_194, ↓u121_195, ↓x_nil, ↓x_om, ↓x_iload_0, ↓x_tsw, ↓x_sw0, ↓x_swc, x_ti4, x_ti5, x_ti6, x_ti7, x_ti8, x_ti9, x_ti10, x_ti11, x_ti12, x_ti13, x_ti14, x_ti15, x_ti16, x_ti17, x_ti18, x_ti19, x_ti20, x_ti21, x_tl4, x_tg21, ↓x_iload_1, ↓x_if_lt, ↓x_bipush_31, ↓x_icmp_gt, ↓x_iconst_1, ↓x_goto, ↓x_iconst_0, ↓x_ireturn, rt121, ↓x_bipush_8, ↓x_icmp_ge, ↓x_sipush_1000, ↓x_if_eq, ↓x_icmp_ne, ↓x_bipush_64, ↓x_iconst_m1, ↓x_icmp_lt, ↓x_iload_2, ↓x_bipush_22, Int.reduceAdd, Nat.reduceAdd, true_and, and_true, true_or, or_true, false_or, or_false, reduceCtorEq, false_and, and_false, and_self, or_self, false_implies, true_implies, not_true_eq_false, not_false_eq_true, implies_true, Option.some.injEq, up_s, up_n]
  repeat' (first | refine And.intro ?_ ?_ | intro c)
  all_goals (refine b_q q ?_)
  all_goals first
    | (rw [k_fitsD (by first | exact Or.inl (by assumption) | (subst_vars; decide))]; first | exact b_vf (in_lo (by assumption)) | exact b_vf (in_hi (by rw [← Int32.not_le, lt_22, Int32.not_lt]; assumption)) | exact b_vt (in_tr (Int32.not_lt.mp (by assumption)) (by rw [lt_22, ← Int32.not_le]; assumption)))
    | (subst_vars; first | exact b_vf (in_lo (by assumption)) | exact b_vf (in_hi (by assumption)) | exact b_vt (in_tr (Int32.not_lt.mp (by assumption)) (Int32.not_lt.mp (by assumption))))
    | (subst_vars; first | exact b_vf (in_hi (hi := 7) (by rw [← Int32.not_le, lt_8, Int32.not_lt]; assumption)) | exact b_vt (in_tr (hi := 7) (Int32.not_lt.mp (by assumption)) (by rw [lt_8, ← Int32.not_le]; assumption)))
    | (subst_vars; simp_all (decide := true) [k_fits, b_v, Int32.not_le, Int32.not_lt]; done)
    | (subst_vars; exact b_vf (by show (decide (-1 ≤ a) && _) = false; rw [decide_eq_false (Int32.not_le.mpr (by assumption))]; rfl))
end KB
