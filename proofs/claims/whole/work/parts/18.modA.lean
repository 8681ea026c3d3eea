/-! the reference's methods: pure ones -/
def b_v (b : Bool) : Int32 := if b = true then 1 else 0
theorem b_vc (b : Bool) : b_v b = 0 ∨ b_v b = 1 := by cases b <;> simp [b_v]
theorem b_vt {b : Bool} (h : b = true) : b_v b = 1 := by simp [b_v, h]
theorem b_vf {b : Bool} (h : b = false) : b_v b = 0 := by simp [b_v, h]
theorem b_v0 {b : Bool} : (b_v b = 0) = (b = false) := by cases b <;> simp [b_v]
theorem b_v1 {b : Bool} : (b_v b = 1) = (b = true) := by cases b <;> simp [b_v]
/-- which sort has which kind -/
def y_has (s k : Int32) : Bool :=
  if k = 0 then s == 1 || s == 2 || s == 6 || s == 7
  else if k = 1 then s == 1 || s == 6
  else if k = 2 then s == 1 || s == 6
  else if k = 3 then s == 2
  else if k = 4 then s == 3 else if k = 5 then s == 3 else if k = 6 then s == 3
  else if k = 7 then s == 3 || s == 4 || s == 5
  else if k = 8 then s == 4 else if k = 9 then s == 4 else if k = 10 then s == 4 else if k = 11 then s == 4
  else if k = 12 then s == 5 else if k = 13 then s == 5 else if k = 14 then s == 5
  else if k = 15 then s == 6 else if k = 16 then s == 6 else if k = 17 then s == 7 else if k = 18 then s == 7 else if k = 19 then s == 6
  else if k = 20 then s == 0 else true
def y_rd (k a : Int32) : Bool := k == 0 || k == 6 || k == 7 || k == 10 || k == 11 || k == 14 || k == 18 || k == 20 || (k == 21 && a == 0)
def y_isIn (v a b : Int32) : Bool := decide (a ≤ v) && decide (v ≤ b)
def y_com (s k a k2 a2 : Int32) : Bool :=
  if 20 ≤ k then false else if 20 ≤ k2 then false else if y_rd k a = true ∧ y_rd k2 a2 = true then true
  else if s = 1 then k == 1 && k2 == 1 else if s = 6 then k == 15 && k2 == 15
  else if s = 3 then y_isIn k 4 6 && y_isIn k2 4 6 && a != a2
  else if s = 5 then y_isIn k 12 14 && y_isIn k2 12 14 && a != a2 else false
def y_ag (w k w2 : Int32) : Bool := w2 == 2 && (w == 1 || (w == 4 && !y_rd k 0))
theorem yh_0 {s : Int32} : y_has s 0 = (s == 1 || s == 2 || s == 6 || s == 7) := id rfl
theorem yh_1 {s : Int32} : y_has s 1 = (s == 1 || s == 6) := id rfl
theorem yh_2 {s : Int32} : y_has s 2 = (s == 1 || s == 6) := id rfl
theorem yh_3 {s : Int32} : y_has s 3 = (s == 2) := id rfl
theorem yh_4 {s : Int32} : y_has s 4 = (s == 3) := id rfl
theorem yh_5 {s : Int32} : y_has s 5 = (s == 3) := id rfl
theorem yh_6 {s : Int32} : y_has s 6 = (s == 3) := id rfl
theorem yh_7 {s : Int32} : y_has s 7 = (s == 3 || s == 4 || s == 5) := id rfl
theorem yh_8 {s : Int32} : y_has s 8 = (s == 4) := id rfl
theorem yh_9 {s : Int32} : y_has s 9 = (s == 4) := id rfl
theorem yh_10 {s : Int32} : y_has s 10 = (s == 4) := id rfl
theorem yh_11 {s : Int32} : y_has s 11 = (s == 4) := id rfl
theorem yh_12 {s : Int32} : y_has s 12 = (s == 5) := id rfl
theorem yh_13 {s : Int32} : y_has s 13 = (s == 5) := id rfl
theorem yh_14 {s : Int32} : y_has s 14 = (s == 5) := id rfl
theorem yh_15 {s : Int32} : y_has s 15 = (s == 6) := id rfl
theorem yh_16 {s : Int32} : y_has s 16 = (s == 6) := id rfl
theorem yh_17 {s : Int32} : y_has s 17 = (s == 7) := id rfl
theorem yh_18 {s : Int32} : y_has s 18 = (s == 7) := id rfl
theorem yh_19 {s : Int32} : y_has s 19 = (s == 6) := id rfl
theorem yh_20 {s : Int32} : y_has s 20 = (s == 0) := id rfl
theorem yh_21 {s : Int32} : y_has s 21 = true := id rfl
section MA
variable {g : e_G} {Ψ : e_Q} {h : e_Hp}
theorem b_q {x y : Int32} (q : Ψ (some (.int x)) h) (e : x = y) : Ψ (some (.int y)) h := e ▸ q
theorem c_isIn (hg : e_GK g) {v a b : Int32} (q : Ψ (some (.int (b_v (y_isIn v a b)))) h) : e_Sc g 153 [.int v, .int a, .int b] h Ψ := by
  refine e_call (cd := cd153) hg ok153 (by rw [mL153]; exact Nat.le_of_ble_eq_true rfl) ?_
  rw [mL153]
  simp only [x_ini, x_inr, x_inn, x_inq, x_inl, x_in0, x_rp0, x_rps, Nat.reduceSub]
  simp (decide := true) (disch := omega) only [↓u153_0, ↓u153_14, ↓u153_15, ↓x_nil, ↓x_om, ↓x_iload_0, ↓x_iload_1, ↓x_icmp_lt, ↓x_iload_2, ↓x_icmp_gt, ↓x_iconst_1, ↓x_goto, ↓x_iconst_0, ↓x_ireturn, rt153, Int.reduceAdd, Nat.reduceAdd, true_and, and_true, true_or, or_true, false_or, or_false, reduceCtorEq, false_and, and_false, and_self, or_self, false_implies, true_implies, not_true_eq_false, not_false_eq_true, implies_true, Option.some.injEq, m_gO, m_isC, up_s, up_n, i_in, i_cl]
  refine ⟨fun c => ?_, fun c => ⟨fun c2 => ?_, fun c2 => ?_⟩⟩
  · rw [b_vf (by simp [y_isIn, Int32.not_le.mpr c])] at q; exact q
  · rw [b_vf (by simp [y_isIn, Int32.not_le.mpr c2])] at q; exact q
  · rw [b_vt (by simp [y_isIn, Int32.not_lt.mp c, Int32.not_lt.mp c2])] at q; exact q
theorem c_has (hg : e_GK g) {s k : Int32} (q : Ψ (some (.int (b_v (y_has s k)))) h) : e_Sc g 170 [.int s, .int k] h Ψ := by
  refine e_call (cd := cd170) hg ok170 (by rw [mL170]; exact Nat.le_of_ble_eq_true rfl) ?_
  rw [mL170]
  simp only [x_ini, x_inr, x_inn, x_inq, x_inl, x_in0, x_rp0, x_rps, Nat.reduceSub]
  simp (decide := true) (disch := omega) only [↓u170_0, ↓u170_100, ↓u170_122, ↓u170_126, ↓u170_127, ↓u170_128, ↓u170_139, ↓u170_143, ↓u170_144, ↓u170_145, ↓u170_154, ↓u170_155, ↓u170_156, ↓u170_165, ↓u170_166, ↓u170_167, ↓u170_182, ↓u170_186, ↓u170_187, ↓u170_188, ↓u170_197, ↓u170_198, ↓u170_199, ↓u170_208, ↓u170_209, ↓u170_210, ↓u170_220, ↓u170_221, ↓u170_222, ↓u170_232, ↓u170_233, ↓u170_234, ↓u170_242, ↓u170_243, ↓u170_244, ↓x_nil, ↓x_om, ↓x_iload_1, ↓x_tsw, ↓x_sw0, ↓x_swc, x_ti0, x_ti1, x_ti2, x_ti3, x_ti4, x_ti5, x_ti6, x_ti7, x_ti8, x_ti9, x_ti10, x_ti11, x_ti12, x_ti13, x_ti14, x_ti15, x_ti16, x_ti17, x_ti18, x_ti19, x_ti20, x_tl0, x_tg20, ↓x_iload_0, ↓x_iconst_1, ↓x_icmp_eq, ↓x_iconst_2, ↓x_bipush_6, ↓x_bipush_7, ↓x_icmp_ne, ↓x_goto, ↓x_iconst_0, ↓x_ireturn, rt170, ↓x_iconst_3, ↓x_iconst_4, ↓x_iconst_5, ↓x_if_ne, Int.reduceAdd, Nat.reduceAdd, true_and, and_true, true_or, or_true, false_or, or_false, reduceCtorEq, false_and, and_false, and_self, or_self, false_implies, true_implies, not_true_eq_false, not_false_eq_true, implies_true, Option.some.injEq, m_gO, m_isC, up_s, up_n, i_in, i_cl]
  refine ⟨fun c => ?_, ?_⟩
  · have e : y_has s k = true := by
      unfold y_has
      iterate 21 rw [if_neg (fun z => by subst z; revert c; decide)]
    rw [e] at q; exact q
  · repeat' (first | refine And.intro ?_ ?_ | (intro c; try subst c))
    all_goals (
      refine b_q q ?_
      first | decide | (simp only [yh_0, yh_1, yh_2, yh_3, yh_4, yh_5, yh_6, yh_7, yh_8, yh_9, yh_10, yh_11, yh_12, yh_13, yh_14, yh_15, yh_16, yh_17, yh_18, yh_19, yh_20]; simp [b_v, *]; done))
theorem c_isReading (hg : e_GK g) {k a : Int32} (q : Ψ (some (.int (b_v (y_rd k a)))) h) : e_Sc g 171 [.int k, .int a] h Ψ := by
  refine e_call (cd := cd171) hg ok171 (by rw [mL171]; exact Nat.le_of_ble_eq_true rfl) ?_
  rw [mL171]
  simp only [x_ini, x_inr, x_inn, x_inq, x_inl, x_in0, x_rp0, x_rps, Nat.reduceSub]
  simp (decide := true) (disch := omega) only [↓u171_0, ↓u171_56, ↓u171_60, ↓u171_61, ↓x_nil, ↓x_om, ↓x_iload_0, ↓x_if_eq, ↓x_bipush_6, ↓x_icmp_eq, ↓x_bipush_7, ↓x_bipush_10, ↓x_bipush_11, ↓x_bipush_14, ↓x_bipush_18, ↓x_bipush_20, ↓x_bipush_21, ↓x_icmp_ne, ↓x_iload_1, ↓x_if_ne, ↓x_iconst_1, ↓x_goto, ↓x_iconst_0, ↓x_ireturn, rt171, Int.reduceAdd, Nat.reduceAdd, true_and, and_true, true_or, or_true, false_or, or_false, reduceCtorEq, false_and, and_false, and_self, or_self, false_implies, true_implies, not_true_eq_false, not_false_eq_true, implies_true, Option.some.injEq, m_gO, m_isC, up_s, up_n, i_in, i_cl]
  generalize hr : y_rd k a = r at q
  repeat' (first | refine And.intro ?_ ?_ | intro c)
  all_goals (
    have hr2 := hr.symm
    unfold y_rd at hr2
    simp_all (decide := true) [b_v])
theorem c_bool {b : Bool} {P Q : Prop} (hp : b = true → P) (hq : b = false → Q) : (b_v b = 0 → Q) ∧ (¬ b_v b = 0 → P) := by
  cases b
  · exact ⟨fun _ => hq rfl, fun z => absurd rfl z⟩
  · exact ⟨fun z => by simp [b_v] at z, fun _ => hp rfl⟩
theorem c_doCommute (hg : e_GK g) {s k a k2 a2 : Int32} (q : Ψ (some (.int (b_v (y_com s k a k2 a2)))) h) : e_Sc g 172 [.int s, .int k, .int a, .int k2, .int a2] h Ψ := by
  refine e_call (cd := cd172) hg ok172 (by rw [mL172]; exact Nat.le_of_ble_eq_true rfl) ?_
  rw [mL172]
  simp only [x_ini, x_inr, x_inn, x_inq, x_inl, x_in0, x_rp0, x_rps, Nat.reduceSub]
  have tail : y_com s k a k2 a2 = (if s = 1 then k == 1 && k2 == 1 else if s = 6 then k == 15 && k2 == 15 else if s = 3 then y_isIn k 4 6 && y_isIn k2 4 6 && a != a2 else if s = 5 then y_isIn k 12 14 && y_isIn k2 12 14 && a != a2 else false) → e_Sm g 172 13 cd172 Ψ 33 [some (.int s), some (.int k), some (.int a), some (.int k2), some (.int a2)] [] h := by
    intro e
    rw [e] at q
    simp (decide := true) (disch := omega) only [↓u172_0, ↓u172_12, ↓u172_14, ↓u172_33, ↓u172_72, ↓u172_86, ↓u172_87, ↓u172_88, ↓u172_104, ↓u172_105, ↓u172_106, ↓u172_136, ↓u172_137, ↓u172_138, ↓u172_170, ↓u172_171, ↓u172_172, ↓x_nil, ↓x_om, ↓x_iload_1, ↓x_bipush_20, ↓x_icmp_ge, ↓x_iload_3, ↓x_icmp_lt, ↓x_iconst_0, ↓x_ireturn, rt172, ↓x_iload_2, ↓x_invokestatic, mt_13_289, x_ps0, x_ps1, x_l40, x_l41, x_l42, x_l43, x_l44, ↓x_cs2_1, ↓x_if_eq, ↓x_iload_4, ↓x_iconst_1, ↓x_iload_0, ↓x_tsw, ↓x_sw0, ↓x_swc, x_ti1, x_ti2, x_ti3, x_ti4, x_ti5, x_ti6, x_tl1, x_tg6, ↓x_icmp_ne, ↓x_goto, ↓x_bipush_15, ↓x_iconst_4, ↓x_bipush_6, mt_13_237, ↓x_cs3_1, ↓x_icmp_eq, ↓x_bipush_12, ↓x_bipush_14, Int.reduceAdd, Nat.reduceAdd, true_and, and_true, true_or, or_true, false_or, or_false, reduceCtorEq, false_and, and_false, and_self, or_self, false_implies, true_implies, not_true_eq_false, not_false_eq_true, implies_true, Option.some.injEq, m_gO, m_isC, up_s, up_n, i_in, i_cl]
    refine ⟨fun c => b_q q (by rw [if_neg (fun z => by subst z; revert c; decide), if_neg (fun z => by subst z; revert c; decide), if_neg (fun z => by subst z; revert c; decide), if_neg (fun z => by subst z; revert c; decide)]; rfl), fun c => ⟨fun c2 => ⟨fun c3 => b_q q (by simp [c, c2, c3, b_v]), fun c3 => b_q q (by simp [c, c2, c3, b_v])⟩, fun c2 => b_q q (by simp [c, c2, b_v])⟩, fun c => b_q q (by subst c; rfl), fun c => c_isIn hg ?_, fun c => b_q q (by subst c; rfl), fun c => c_isIn hg ?_, fun c => ⟨fun c2 => ⟨fun c3 => b_q q (by subst c; subst c2; subst c3; rfl), fun c3 => b_q q (by subst c; simp [c2, c3, b_v])⟩, fun c2 => b_q q (by subst c; simp [c2, b_v])⟩⟩
    · subst c
      simp (decide := true) (disch := omega) only [↓u172_0, ↓u172_12, ↓u172_14, ↓u172_33, ↓u172_72, ↓u172_86, ↓u172_87, ↓u172_88, ↓u172_104, ↓u172_105, ↓u172_106, ↓u172_136, ↓u172_137, ↓u172_138, ↓u172_170, ↓u172_171, ↓u172_172, ↓x_nil, ↓x_om, ↓x_iload_1, ↓x_bipush_20, ↓x_icmp_ge, ↓x_iload_3, ↓x_icmp_lt, ↓x_iconst_0, ↓x_ireturn, rt172, ↓x_iload_2, ↓x_invokestatic, mt_13_289, x_ps0, x_ps1, x_l40, x_l41, x_l42, x_l43, x_l44, ↓x_cs2_1, ↓x_if_eq, ↓x_iload_4, ↓x_iconst_1, ↓x_iload_0, ↓x_tsw, ↓x_sw0, ↓x_swc, x_ti1, x_ti2, x_ti3, x_ti4, x_ti5, x_ti6, x_tl1, x_tg6, ↓x_icmp_ne, ↓x_goto, ↓x_bipush_15, ↓x_iconst_4, ↓x_bipush_6, mt_13_237, ↓x_cs3_1, ↓x_icmp_eq, ↓x_bipush_12, ↓x_bipush_14, Int.reduceAdd, Nat.reduceAdd, true_and, and_true, true_or, or_true, false_or, or_false, reduceCtorEq, false_and, and_false, and_self, or_self, false_implies, true_implies, not_true_eq_false, not_false_eq_true, implies_true, Option.some.injEq, m_gO, m_isC, up_s, up_n, i_in, i_cl]
      refine c_bool (fun r1 => c_isIn hg ?_) (fun r1 => b_q q (by simp [r1, b_v]))
      simp (decide := true) (disch := omega) only [↓u172_0, ↓u172_12, ↓u172_14, ↓u172_33, ↓u172_72, ↓u172_86, ↓u172_87, ↓u172_88, ↓u172_104, ↓u172_105, ↓u172_106, ↓u172_136, ↓u172_137, ↓u172_138, ↓u172_170, ↓u172_171, ↓u172_172, ↓x_nil, ↓x_om, ↓x_iload_1, ↓x_bipush_20, ↓x_icmp_ge, ↓x_iload_3, ↓x_icmp_lt, ↓x_iconst_0, ↓x_ireturn, rt172, ↓x_iload_2, ↓x_invokestatic, mt_13_289, x_ps0, x_ps1, x_l40, x_l41, x_l42, x_l43, x_l44, ↓x_cs2_1, ↓x_if_eq, ↓x_iload_4, ↓x_iconst_1, ↓x_iload_0, ↓x_tsw, ↓x_sw0, ↓x_swc, x_ti1, x_ti2, x_ti3, x_ti4, x_ti5, x_ti6, x_tl1, x_tg6, ↓x_icmp_ne, ↓x_goto, ↓x_bipush_15, ↓x_iconst_4, ↓x_bipush_6, mt_13_237, ↓x_cs3_1, ↓x_icmp_eq, ↓x_bipush_12, ↓x_bipush_14, Int.reduceAdd, Nat.reduceAdd, true_and, and_true, true_or, or_true, false_or, or_false, reduceCtorEq, false_and, and_false, and_self, or_self, false_implies, true_implies, not_true_eq_false, not_false_eq_true, implies_true, Option.some.injEq, m_gO, m_isC, up_s, up_n, i_in, i_cl]
      exact c_bool (fun r2 => ⟨fun c3 => b_q q (by simp [r1, r2, c3, b_v]), fun c3 => b_q q (by simp [r1, r2, c3, b_v])⟩) (fun r2 => b_q q (by simp [r1, r2, b_v]))
    · subst c
      simp (decide := true) (disch := omega) only [↓u172_0, ↓u172_12, ↓u172_14, ↓u172_33, ↓u172_72, ↓u172_86, ↓u172_87, ↓u172_88, ↓u172_104, ↓u172_105, ↓u172_106, ↓u172_136, ↓u172_137, ↓u172_138, ↓u172_170, ↓u172_171, ↓u172_172, ↓x_nil, ↓x_om, ↓x_iload_1, ↓x_bipush_20, ↓x_icmp_ge, ↓x_iload_3, ↓x_icmp_lt, ↓x_iconst_0, ↓x_ireturn, rt172, ↓x_iload_2, ↓x_invokestatic, mt_13_289, x_ps0, x_ps1, x_l40, x_l41, x_l42, x_l43, x_l44, ↓x_cs2_1, ↓x_if_eq, ↓x_iload_4, ↓x_iconst_1, ↓x_iload_0, ↓x_tsw, ↓x_sw0, ↓x_swc, x_ti1, x_ti2, x_ti3, x_ti4, x_ti5, x_ti6, x_tl1, x_tg6, ↓x_icmp_ne, ↓x_goto, ↓x_bipush_15, ↓x_iconst_4, ↓x_bipush_6, mt_13_237, ↓x_cs3_1, ↓x_icmp_eq, ↓x_bipush_12, ↓x_bipush_14, Int.reduceAdd, Nat.reduceAdd, true_and, and_true, true_or, or_true, false_or, or_false, reduceCtorEq, false_and, and_false, and_self, or_self, false_implies, true_implies, not_true_eq_false, not_false_eq_true, implies_true, Option.some.injEq, m_gO, m_isC, up_s, up_n, i_in, i_cl]
      refine c_bool (fun r1 => c_isIn hg ?_) (fun r1 => b_q q (by simp [r1, b_v]))
      simp (decide := true) (disch := omega) only [↓u172_0, ↓u172_12, ↓u172_14, ↓u172_33, ↓u172_72, ↓u172_86, ↓u172_87, ↓u172_88, ↓u172_104, ↓u172_105, ↓u172_106, ↓u172_136, ↓u172_137, ↓u172_138, ↓u172_170, ↓u172_171, ↓u172_172, ↓x_nil, ↓x_om, ↓x_iload_1, ↓x_bipush_20, ↓x_icmp_ge, ↓x_iload_3, ↓x_icmp_lt, ↓x_iconst_0, ↓x_ireturn, rt172, ↓x_iload_2, ↓x_invokestatic, mt_13_289, x_ps0, x_ps1, x_l40, x_l41, x_l42, x_l43, x_l44, ↓x_cs2_1, ↓x_if_eq, ↓x_iload_4, ↓x_iconst_1, ↓x_iload_0, ↓x_tsw, ↓x_sw0, ↓x_swc, x_ti1, x_ti2, x_ti3, x_ti4, x_ti5, x_ti6, x_tl1, x_tg6, ↓x_icmp_ne, ↓x_goto, ↓x_bipush_15, ↓x_iconst_4, ↓x_bipush_6, mt_13_237, ↓x_cs3_1, ↓x_icmp_eq, ↓x_bipush_12, ↓x_bipush_14, Int.reduceAdd, Nat.reduceAdd, true_and, and_true, true_or, or_true, false_or, or_false, reduceCtorEq, false_and, and_false, and_self, or_self, false_implies, true_implies, not_true_eq_false, not_false_eq_true, implies_true, Option.some.injEq, m_gO, m_isC, up_s, up_n, i_in, i_cl]
      exact c_bool (fun r2 => ⟨fun c3 => b_q q (by simp [r1, r2, c3, b_v]), fun c3 => b_q q (by simp [r1, r2, c3, b_v])⟩) (fun r2 => b_q q (by simp [r1, r2, b_v]))
  simp (decide := true) (disch := omega) only [↓u172_0, ↓u172_12, ↓u172_14, ↓u172_72, ↓u172_86, ↓u172_87, ↓u172_88, ↓u172_104, ↓u172_105, ↓u172_106, ↓u172_136, ↓u172_137, ↓u172_138, ↓u172_170, ↓u172_171, ↓u172_172, ↓x_nil, ↓x_om, ↓x_iload_1, ↓x_bipush_20, ↓x_icmp_ge, ↓x_iload_3, ↓x_icmp_lt, ↓x_iconst_0, ↓x_ireturn, rt172, ↓x_iload_2, ↓x_invokestatic, mt_13_289, x_ps0, x_ps1, x_l40, x_l41, x_l42, x_l43, x_l44, ↓x_cs2_1, ↓x_if_eq, ↓x_iload_4, ↓x_iconst_1, ↓x_iload_0, ↓x_tsw, ↓x_sw0, ↓x_swc, x_ti1, x_ti2, x_ti3, x_ti4, x_ti5, x_ti6, x_tl1, x_tg6, ↓x_icmp_ne, ↓x_goto, ↓x_bipush_15, ↓x_iconst_4, ↓x_bipush_6, mt_13_237, ↓x_cs3_1, ↓x_icmp_eq, ↓x_bipush_12, ↓x_bipush_14, Int.reduceAdd, Nat.reduceAdd, true_and, and_true, true_or, or_true, false_or, or_false, reduceCtorEq, false_and, and_false, and_self, or_self, false_implies, true_implies, not_true_eq_false, not_false_eq_true, implies_true, Option.some.injEq, m_gO, m_isC, up_s, up_n, i_in, i_cl]
  refine ⟨fun c => b_q q (by simp [y_com, c, b_v]), fun c => ⟨fun c2 => c_isReading hg ?_, fun c2 => b_q q (by simp [y_com, c, Int32.not_lt.mp c2, b_v])⟩⟩
  simp (decide := true) (disch := omega) only [↓u172_0, ↓u172_12, ↓u172_14, ↓u172_72, ↓u172_86, ↓u172_87, ↓u172_88, ↓u172_104, ↓u172_105, ↓u172_106, ↓u172_136, ↓u172_137, ↓u172_138, ↓u172_170, ↓u172_171, ↓u172_172, ↓x_nil, ↓x_om, ↓x_iload_1, ↓x_bipush_20, ↓x_icmp_ge, ↓x_iload_3, ↓x_icmp_lt, ↓x_iconst_0, ↓x_ireturn, rt172, ↓x_iload_2, ↓x_invokestatic, mt_13_289, x_ps0, x_ps1, x_l40, x_l41, x_l42, x_l43, x_l44, ↓x_cs2_1, ↓x_if_eq, ↓x_iload_4, ↓x_iconst_1, ↓x_iload_0, ↓x_tsw, ↓x_sw0, ↓x_swc, x_ti1, x_ti2, x_ti3, x_ti4, x_ti5, x_ti6, x_tl1, x_tg6, ↓x_icmp_ne, ↓x_goto, ↓x_bipush_15, ↓x_iconst_4, ↓x_bipush_6, mt_13_237, ↓x_cs3_1, ↓x_icmp_eq, ↓x_bipush_12, ↓x_bipush_14, Int.reduceAdd, Nat.reduceAdd, true_and, and_true, true_or, or_true, false_or, or_false, reduceCtorEq, false_and, and_false, and_self, or_self, false_implies, true_implies, not_true_eq_false, not_false_eq_true, implies_true, Option.some.injEq, m_gO, m_isC, up_s, up_n, i_in, i_cl]
  refine c_bool (fun r1 => c_isReading hg ?_) (fun r1 => tail (by simp [y_com, c, Int32.not_le.mpr c2, r1]))
  simp (decide := true) (disch := omega) only [↓u172_0, ↓u172_12, ↓u172_14, ↓u172_72, ↓u172_86, ↓u172_87, ↓u172_88, ↓u172_104, ↓u172_105, ↓u172_106, ↓u172_136, ↓u172_137, ↓u172_138, ↓u172_170, ↓u172_171, ↓u172_172, ↓x_nil, ↓x_om, ↓x_iload_1, ↓x_bipush_20, ↓x_icmp_ge, ↓x_iload_3, ↓x_icmp_lt, ↓x_iconst_0, ↓x_ireturn, rt172, ↓x_iload_2, ↓x_invokestatic, mt_13_289, x_ps0, x_ps1, x_l40, x_l41, x_l42, x_l43, x_l44, ↓x_cs2_1, ↓x_if_eq, ↓x_iload_4, ↓x_iconst_1, ↓x_iload_0, ↓x_tsw, ↓x_sw0, ↓x_swc, x_ti1, x_ti2, x_ti3, x_ti4, x_ti5, x_ti6, x_tl1, x_tg6, ↓x_icmp_ne, ↓x_goto, ↓x_bipush_15, ↓x_iconst_4, ↓x_bipush_6, mt_13_237, ↓x_cs3_1, ↓x_icmp_eq, ↓x_bipush_12, ↓x_bipush_14, Int.reduceAdd, Nat.reduceAdd, true_and, and_true, true_or, or_true, false_or, or_false, reduceCtorEq, false_and, and_false, and_self, or_self, false_implies, true_implies, not_true_eq_false, not_false_eq_true, implies_true, Option.some.injEq, m_gO, m_isC, up_s, up_n, i_in, i_cl]
  exact c_bool (fun r2 => b_q q (by simp [y_com, c, Int32.not_le.mpr c2, r1, r2, b_v])) (fun r2 => tail (by simp [y_com, c, Int32.not_le.mpr c2, r1, r2]))
theorem c_isAgainst (hg : e_GK g) {w k w2 : Int32} (q : Ψ (some (.int (b_v (y_ag w k w2)))) h) : e_Sc g 200 [.int w, .int k, .int w2] h Ψ := by
  refine e_call (cd := cd200) hg ok200 (by rw [mL200]; exact Nat.le_of_ble_eq_true rfl) ?_
  rw [mL200]
  simp only [x_ini, x_inr, x_inn, x_inq, x_inl, x_in0, x_rp0, x_rps, Nat.reduceSub]
  simp (decide := true) (disch := omega) only [↓u200_0, ↓u200_23, ↓u200_27, ↓u200_28, ↓x_nil, ↓x_om, ↓x_iload_2, ↓x_iconst_2, ↓x_icmp_ne, ↓x_iload_0, ↓x_iconst_1, ↓x_icmp_eq, ↓x_iconst_4, ↓x_iload_1, ↓x_iconst_0, ↓x_invokestatic, mt_13_289, x_ps0, x_ps1, x_l40, x_l41, x_l42, x_l43, x_l44, ↓x_cs2_1, ↓x_if_ne, ↓x_goto, ↓x_ireturn, rt200, Int.reduceAdd, Nat.reduceAdd, true_and, and_true, true_or, or_true, false_or, or_false, reduceCtorEq, false_and, and_false, and_self, or_self, false_implies, true_implies, not_true_eq_false, not_false_eq_true, implies_true, Option.some.injEq, m_gO, m_isC, up_s, up_n, i_in, i_cl]
  refine ⟨fun c => ⟨fun c2 => b_q q (by simp [y_ag, c, c2, b_v]), fun c2 => ⟨fun c3 => c_isReading hg ?_, fun c3 => b_q q (by simp [y_ag, c, c2, c3, b_v])⟩⟩, fun c => b_q q (by simp [y_ag, c, b_v])⟩
  simp (decide := true) (disch := omega) only [↓u200_0, ↓u200_23, ↓u200_27, ↓u200_28, ↓x_nil, ↓x_om, ↓x_iload_2, ↓x_iconst_2, ↓x_icmp_ne, ↓x_iload_0, ↓x_iconst_1, ↓x_icmp_eq, ↓x_iconst_4, ↓x_iload_1, ↓x_iconst_0, ↓x_invokestatic, mt_13_289, x_ps0, x_ps1, x_l40, x_l41, x_l42, x_l43, x_l44, ↓x_cs2_1, ↓x_if_ne, ↓x_goto, ↓x_ireturn, rt200, Int.reduceAdd, Nat.reduceAdd, true_and, and_true, true_or, or_true, false_or, or_false, reduceCtorEq, false_and, and_false, and_self, or_self, false_implies, true_implies, not_true_eq_false, not_false_eq_true, implies_true, Option.some.injEq, m_gO, m_isC, up_s, up_n, i_in, i_cl]
  exact c_bool (fun r => b_q q (by simp [y_ag, c, c2, c3, r, b_v])) (fun r => b_q q (by simp [y_ag, c, c2, c3, r, b_v]))
end MA
