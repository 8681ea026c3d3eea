/-! what acts write: the class's mask and the reference's marks -/
section UH
variable {g : e_G} {Ψ : e_Q} {B : Nat → Option e_Cl} {Z : k_Z} {P : k_P} {U : k_U} {r : Nat × Nat} {S : m_S} {A A0 : m_A} {N own n d ahead : Nat}
def bl (x : Int64) (i : Nat) : Bool := x.toBitVec.getLsbD i
theorem bl_or {x y : Int64} {i : Nat} : bl (x ||| y) i = (bl x i || bl y i) := by
  unfold bl
  rw [Int64.toBitVec_or, BitVec.getLsbD_or]
theorem bl_0 {i : Nat} : bl 0 i = false := BitVec.getLsbD_zero
theorem bl_one : ∀ n, n < 40 → ∀ i, i < 40 → bl ((1 : Int64) <<< ((nI n).toInt64 &&& 63)) i = decide (n = i) := by decide +kernel
theorem bl_sm : ∀ n, n < 40 → (((nI n).toInt64 &&& 63).toBitVec.smod 64).toNat = n := by decide +kernel
theorem bl_shr {x : Int64} {n : Nat} (hn : n < 40) : bl (x >>> ((nI n).toInt64 &&& 63)) 0 = bl x n := by
  unfold bl
  show (BitVec.sshiftRight x.toBitVec (((nI n).toInt64 &&& 63).toBitVec.smod 64).toNat).getLsbD 0 = x.toBitVec.getLsbD n
  rw [bl_sm n hn, BitVec.getLsbD_sshiftRight]
  simp [show n < 64 by omega]
theorem bl_ext {x y : Int64} (h : ∀ i, i < 64 → bl x i = bl y i) : x = y := Int64.toBitVec_inj.mp (BitVec.eq_of_getLsbD_eq (fun i hi => h i hi))
theorem bl_1 : ∀ i, i < 64 → bl 1 i = decide (i = 0) := by decide +kernel
theorem bl_and {x y : Int64} {i : Nat} : bl (x &&& y) i = (bl x i && bl y i) := by
  unfold bl
  rw [Int64.toBitVec_and, BitVec.getLsbD_and]
theorem bl_a1 {x : Int64} : (x &&& 1 = 1) = (bl x 0 = true) := by
  refine propext ⟨fun h => ?_, fun h => bl_ext (fun i hi => ?_)⟩
  · have := congrArg (fun z => bl z 0) h
    simp only [bl_and, bl_1 0 (by omega)] at this
    simpa using this
  · rw [bl_and, bl_1 i hi]
    by_cases e : i = 0
    · subst e; simp [h]
    · simp [e]
theorem lg_0 {x y : Int64} : (lg_cmp x y = 0) = (x = y) := by
  refine propext ⟨fun h => ?_, fun h => ?_⟩
  · have h1 : y ≤ x := by rw [← l_ge, h]; exact Int32.le_refl _
    have h2 : x ≤ y := by rw [← l_le, h]; exact Int32.le_refl _
    exact Int64.le_antisymm h2 h1
  · have h1 : 0 ≤ lg_cmp x y := by rw [l_ge, h]; exact Int64.le_refl _
    have h2 : lg_cmp x y ≤ 0 := by rw [l_le, h]; exact Int64.le_refl _
    exact Int32.le_antisymm h2 h1
/-- whether an act writes on an object -/
def wrt (A : m_A) (j o : Nat) : Bool := (decide (A 36 j = 18 ∨ A 36 j = 19) && decide (A 38 j = nI o)) || (!(decide (A 36 j = 21 ∨ y_rd (A 36 j) (A 37 j) = true)) && decide (A 35 j = nI o))
theorem b_or {x y : Bool} : b_v x ||| b_v y = b_v (x || y) := by cases x <;> cases y <;> decide
theorem b_v01e {v : Int32} (h : v = 0 ∨ v = 1) : v = b_v (decide (v = 1)) := by rcases h with rfl | rfl <;> decide
theorem ka1_w {i o q kq : Nat} (ho : o < 40) (hw : w_01 40 (S.2 101)) (hq : q < 40) (eo : S.2 35 i = nI q) (hb : S.2 36 i = 18 ∨ S.2 36 i = 19 → kq < 40 ∧ S.2 38 i = nI kq) : (y_ka1 i S).2 101 o = b_v (decide (S.2 101 o = 1) || wrt S.2 i o) := by
  have zf := (z_frW (x := 40 + (S.2 35 i).toNatClampNeg) (k := (S.2 36 i).toNatClampNeg) (a := S.2 37 i) (b := S.2 38 i) (S := S)).2.1 101 (by decide) (by decide) (by decide) (by decide) (by decide)
  have e0 : (y_wk 40 i S).2.2 101 = S.2 101 := zf
  unfold y_ka1
  dsimp only
  rw [up_s, e0, eo, i_cl (by omega)]
  -- the first mark
  have f1 : ∀ x, x < 40 → (if S.2 36 i = 18 ∨ S.2 36 i = 19 then va_up (S.2 101) (S.2 38 i).toNatClampNeg 1 else S.2 101) x = b_v (decide (S.2 101 x = 1) || (decide (S.2 36 i = 18 ∨ S.2 36 i = 19) && decide (S.2 38 i = nI x))) := fun x hx => by
    by_cases c : S.2 36 i = 18 ∨ S.2 36 i = 19
    · obtain ⟨h1, h2⟩ := hb c
      rw [if_pos c, decide_eq_true c, Bool.true_and, h2, i_cl (by omega)]
      by_cases cx : x = kq
      · rw [cx, up_s, decide_eq_true rfl, Bool.or_true]; rfl
      · rw [up_n cx, show decide (nI kq = nI x) = false from decide_eq_false (fun e => cx (by rw [i_eq (by omega) (by omega)] at e; exact e.symm)), Bool.or_false]
        exact b_v01e (hw x hx)
    · rw [if_neg c, decide_eq_false c, Bool.false_and, Bool.or_false]
      exact b_v01e (hw x hx)
  unfold wrt
  rw [← Bool.or_assoc]
  generalize hF : (if S.2 36 i = 18 ∨ S.2 36 i = 19 then va_up (S.2 101) (S.2 38 i).toNatClampNeg 1 else S.2 101) = F1 at *
  by_cases cx : o = q
  · rw [cx, up_s, f1 q hq, eo, decide_eq_true rfl, Bool.and_true]
    have e2 : (if S.2 36 i = 21 ∨ y_rd (S.2 36 i) (S.2 37 i) = true then (0 : Int32) else 1) = b_v (!(decide (S.2 36 i = 21 ∨ y_rd (S.2 36 i) (S.2 37 i) = true))) := by
      by_cases c : S.2 36 i = 21 ∨ y_rd (S.2 36 i) (S.2 37 i) = true
      · rw [if_pos c, decide_eq_true c]; rfl
      · rw [if_neg c, decide_eq_false c]; rfl
    rw [e2, b_or]
  · rw [up_n cx, f1 o ho, eo, show decide (nI q = nI o) = false from decide_eq_false (fun e => cx (by rw [i_eq (by omega) (by omega)] at e; exact e.symm)), Bool.and_false, Bool.or_false]
theorem b_v1d {x : Bool} : decide (b_v x = 1) = x := by cases x <;> decide
/-- the marks when all are kept -/
theorem kaL_w {c : Nat → Nat} {o : Nat} (ho : o < 40) : ∀ (m : Nat) (S : m_S), w_01 40 (S.2 101) → (∀ j, j < m → ∃ q kq, q < 40 ∧ S.2 35 (c j) = nI q ∧ (S.2 36 (c j) = 18 ∨ S.2 36 (c j) = 19 → kq < 40 ∧ S.2 38 (c j) = nI kq)) → (y_kaL c m S).2 101 o = b_v (decide (S.2 101 o = 1) || (revr c m).any (fun j => wrt S.2 j o))
  | 0, S, hw, _ => by
    rw [y_kaL, revr, List.any_nil, Bool.or_false]
    exact b_v01e (hw o ho)
  | m + 1, S, hw, h => by
    obtain ⟨q, kq, h1, h2, h3⟩ := h m (by omega)
    have fx : ∀ f, f ≠ 31 → f ≠ 9 → f ≠ 10 → f ≠ 11 → f ≠ 12 → f ≠ 101 → (y_ka1 (c m) S).2 f = S.2 f := fun f a b c' d e e' => by
      have := (z_frW (x := 40 + (S.2 35 (c m)).toNatClampNeg) (k := (S.2 36 (c m)).toNatClampNeg) (a := S.2 37 (c m)) (b := S.2 38 (c m)) (S := S)).2.1 f a b c' d e
      unfold y_ka1
      dsimp only
      rw [up_n e']
      exact this
    have hw' : w_01 40 ((y_ka1 (c m) S).2 101) := fun x hx => by rw [ka1_w hx hw h1 h2 h3]; exact b_v01
    have f1 := fx 35 (by decide) (by decide) (by decide) (by decide) (by decide) (by decide)
    have f2 := fx 36 (by decide) (by decide) (by decide) (by decide) (by decide) (by decide)
    have f3 := fx 37 (by decide) (by decide) (by decide) (by decide) (by decide) (by decide)
    have f4 := fx 38 (by decide) (by decide) (by decide) (by decide) (by decide) (by decide)
    have ew : ∀ j, wrt (y_ka1 (c m) S).2 j o = wrt S.2 j o := fun j => by unfold wrt; rw [f1, f2, f3, f4]
    rw [y_kaL, kaL_w ho m _ hw' (fun j hj => by rw [f1, f2, f4]; exact h j (by omega)), ka1_w ho hw h1 h2 h3, b_v1d, revr, List.any_cons]
    simp only [ew]
    rw [Bool.or_assoc]
/-- the class's mask of one row -/
theorem wrn_ok {x j o q kk : Nat} (ho : o < 40) (hq : q < 40) (hk : kk < 22) (e1 : P.1 142 x = A 35 j) (e2 : P.1 143 x = A 36 j) (e3 : P.1 144 x = A 37 j) (e4 : P.1 145 x = A 38 j) (eo : A 35 j = nI q) (ek : A 36 j = nI kk) (hb : kk = 18 ∨ kk = 19 → ∃ b, b < 40 ∧ A 38 j = nI b) : bl (k_wrn P x) o = wrt A j o := by
  have kk' : ∀ m : Nat, m < 22 → (nI kk = nI m) = (kk = m) := fun m hm => i_eq (by omega) (by omega)
  have k18 : (nI kk = 18) = (kk = 18) := kk' 18 (by omega)
  have k19 : (nI kk = 19) = (kk = 19) := kk' 19 (by omega)
  have k21 : (nI kk = 21) = (kk = 21) := kk' 21 (by omega)
  have dq : ∀ b, b < 40 → decide (nI b = nI o) = decide (b = o) := fun b hb => by
    by_cases c : b = o
    · rw [c, decide_eq_true rfl, decide_eq_true rfl]
    · rw [decide_eq_false c, decide_eq_false (fun e => c (by rw [i_eq (by omega) (by omega)] at e; exact e))]
  unfold k_wrn wrt
  rw [e1, e2, e3, e4, eo, ek]
  by_cases c18 : kk = 18
  · obtain ⟨b, b1, b2⟩ := hb (Or.inl c18)
    subst c18
    rw [if_pos (show nI 18 = 18 from rfl), b2, bl_one b b1 o ho, dq b b1, dq q hq]
    simp (decide := true) [y_rd]
  · have n18 : ¬ nI kk = 18 := by rw [k18]; exact c18
    rw [if_neg n18]
    by_cases c19 : kk = 19
    · obtain ⟨b, b1, b2⟩ := hb (Or.inr c19)
      subst c19
      rw [if_pos (show nI 19 = 19 from rfl), b2, bl_or, bl_one q hq o ho, bl_one b b1 o ho, dq b b1, dq q hq]
      simp (decide := true) [y_rd]
      rw [Bool.or_comm]
    · have n19 : ¬ nI kk = 19 := by rw [k19]; exact c19
      rw [if_neg n19, decide_eq_false (fun z => z.elim n18 n19), Bool.false_and, Bool.false_or, dq q hq]
      by_cases cr : nI kk = 21 ∨ y_rd (nI kk) (A 37 j) = true
      · rw [if_pos cr, decide_eq_true cr, bl_0]; rfl
      · rw [if_neg cr, decide_eq_false cr, bl_one q hq o ho]; rfl
end UH
