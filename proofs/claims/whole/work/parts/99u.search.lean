/-! rings: the search, both ways -/
section SX
variable {Z : k_Z} {P : k_P} {U : k_U} {r : Nat × Nat} {S : m_S} {N own n b l nl nw nr na ne t q c T : Nat} {ch : Nat → List Nat} {M f0 fr0 : Nat → Int32}
/-- the deal at a seat -/
def lvf (A : m_A) (k : Nat) : Nat := (A 46 k).toNatClampNeg
theorem wW_ok (hI : I_all n b l nl nw nr na ne ch 0 c T S) : w_W S nl l (wpos nw S.2) (lvf S.2) := by
  have hI0 := hI
  obtain ⟨hL, hD, hE, hK, hV, hM, hP, hX⟩ := hI
  have n40 := hL.2.2.1.1
  obtain ⟨n1, n2⟩ := nl_le hD hK n40 hP
  obtain ⟨d1, d2, d3, d4, d5, d6, d7, d8, d9, d10, d11⟩ := hD
  refine ⟨by omega, d6, hK.1, d5, fun k hk => ?_, fun u hu st => ?_⟩
  · obtain ⟨w, e1, e2, e3⟩ := d7 k hk
    unfold lvf
    rw [e1, i_cl (by omega)]
    exact ⟨by omega, rfl⟩
  · have hb : 1 ≤ u ∧ u ≤ b := by
      by_cases z : u = 0 ∨ b < u
      · have := (d4 u hu z).1
        rw [this] at st
        exact absurd st (by decide)
      · omega
    exact (wpos_ok hI0 hb.1 hb.2 st).2.1
theorem search_ok (hI : I_all n b l nl nw nr na ne ch 0 c T S) (hK : K_all N own n b l nl nw nr ne ch 0 Z P U r S) (hq : (v_lv l S.2)[q]? = some t) (hM : ∀ i, i < l → M i = k_wf Z P U own (dl U own (lvf S.2 i))) :
    (∀ L fr, k_bf M q 0 12 [q] (va_up fr0 q (-1)) = (none, L, fr) → y_near (y_wf (wpos nw S.2) nl S.2) (lvf S.2) (y_far (y_wf (wpos nw S.2) nl S.2) (lvf S.2) l t f0) t 0 l none = none) ∧
    ∀ a L fr, k_bf M q 0 12 [q] (va_up fr0 q (-1)) = (some a, L, fr) → ∃ (R : Nat) (x : Nat → Nat), R < 12 ∧ (∀ j, j ≤ R → x j < l) ∧ x 0 = q ∧ k_pth fr 12 (nI a) = ((List.range (R + 1)).map x).reverse ∧ ∃ p : Nat → Nat, (∀ j, j ≤ R → p j = lvf S.2 (x j)) ∧ (f0 = S.2 96 → w_ring t nl l (wpos nw S.2) (lvf S.2) p R S) := by
  have hI0 := hI
  have hK0 := hK
  obtain ⟨hL, hD, hE, hLk, hV, hMi, hP, hX⟩ := hI
  obtain ⟨d1, d2, d3, d4, d5, d6, d7, d8, d9, d10, d11⟩ := hD
  have lve : ∀ k, k < l → (v_lv l S.2)[k]? = some (lvf S.2 k) := fun k hk => by rw [v_lvg, if_pos hk]; rfl
  have lvm : ∀ k, k < l → 1 ≤ lvf S.2 k ∧ lvf S.2 k ≤ b ∧ undw S.2 (lvf S.2 k) := fun k hk => (d9 _).mp (List.mem_of_getElem? (lve k hk))
  have ql : q < l := by have := (List.getElem?_eq_some_iff.mp hq).1; rw [v_lvl] at this; exact this
  have etq : lvf S.2 q = t := by rw [lve q ql] at hq; exact Option.some.inj hq
  have inj : ∀ i j, i < l → j < l → lvf S.2 i = lvf S.2 j → i = j := fun i j hi hj e => by
    have h1 := lve i hi
    rw [e] at h1
    exact idx_inj (pw_nd d8) h1 (lve j hj)
  have hm : ∀ a x, a < l → x < 12 → k_b (M a) x = (fun a x => decide (x < l) && y_wf (wpos nw S.2) nl S.2 (lvf S.2 a) (lvf S.2 x)) a x := fun a x ha hx => by
    dsimp only
    rw [hM a ha]
    obtain ⟨m1, m2, m3⟩ := lvm a ha
    by_cases c : x < l
    · rw [decide_eq_true c, Bool.true_and]
      exact edge_ok hI0 hK0 m1 m2 m3 (lve x c)
    · rw [decide_eq_false c, Bool.false_and]
      exact edge_hi hI0 hK0 m1 m2 (by omega) (by omega)
  have hV' : ∀ a x, a < l → x < 12 → (fun a x => decide (x < l) && y_wf (wpos nw S.2) nl S.2 (lvf S.2 a) (lvf S.2 x)) a x = true → x < l := fun a x _ _ h => by
    dsimp only at h
    rw [Bool.and_eq_true, decide_eq_true_eq] at h
    exact h.1
  have hW : ∀ a x, a < l → x < l → (fun a x => decide (x < l) && y_wf (wpos nw S.2) nl S.2 (lvf S.2 a) (lvf S.2 x)) a x = y_wf (wpos nw S.2) nl S.2 (lvf S.2 a) (lvf S.2 x) := fun a x _ hx => by
    dsimp only
    rw [decide_eq_true hx, Bool.true_and]
  generalize (fun a x => decide (x < l) && y_wf (wpos nw S.2) nl S.2 (lvf S.2 a) (lvf S.2 x)) = V at hm hV' hW
  obtain ⟨q1, q2⟩ := bf_ok d6 (by omega) hm hV' 12 0 [q] (va_up fr0 q (-1)) (fun _ => 0) (by omega) (bi_0 ql)
  refine ⟨fun L fr e => ?_, fun a L fr e => ?_⟩
  · obtain ⟨π, hB⟩ := q1 L fr e
    have no := ring_none d6 hW inj hB
    have ph : ∀ i, i < l → (y_far (y_wf (wpos nw S.2) nl S.2) (lvf S.2) l t f0 (lvf S.2 i)).toNatClampNeg ≤ 99 ∧ y_far (y_wf (wpos nw S.2) nl S.2) (lvf S.2) l t f0 (lvf S.2 i) = nI (y_far (y_wf (wpos nw S.2) nl S.2) (lvf S.2) l t f0 (lvf S.2 i)).toNatClampNeg ∧ ((y_far (y_wf (wpos nw S.2) nl S.2) (lvf S.2) l t f0 (lvf S.2 i)).toNatClampNeg < 99 → wk (y_wf (wpos nw S.2) nl S.2) (lvf S.2) l t (y_far (y_wf (wpos nw S.2) nl S.2) (lvf S.2) l t f0 (lvf S.2 i)).toNatClampNeg (lvf S.2 i)) := fun i hi => by
      obtain ⟨d, z1, z2, z3, z4⟩ := far_ok (W := y_wf (wpos nw S.2) nl S.2) (lv := lvf S.2) (t := t) inj (f := f0) hi
      have e : (y_far (y_wf (wpos nw S.2) nl S.2) (lvf S.2) l t f0 (lvf S.2 i)).toNatClampNeg = d := by rw [z2, i_cl (by omega)]
      rw [e]
      exact ⟨z1, z2, z3⟩
    have nb := near_ok (W := y_wf (wpos nw S.2) nl S.2) (lv := lvf S.2) (u := t) (f := y_far (y_wf (wpos nw S.2) nl S.2) (lvf S.2) l t f0) (φ := fun i => (y_far (y_wf (wpos nw S.2) nl S.2) (lvf S.2) l t f0 (lvf S.2 i)).toNatClampNeg) (fun i hi => ⟨(ph i hi).1, (ph i hi).2.1⟩) l 0 none (by omega) ⟨fun _ k hk => by omega, fun v hv => by cases hv⟩
    cases en : y_near (y_wf (wpos nw S.2) nl S.2) (lvf S.2) (y_far (y_wf (wpos nw S.2) nl S.2) (lvf S.2) l t f0) t 0 l none with
    | none => rfl
    | some v =>
      obtain ⟨i, i1, i2, i3, i4, _⟩ := nb.2 v en
      have qL : q ∈ L := List.mem_of_getElem? hB.1.2.2.1
      have w := (ph i i1).2.2 i4
      have no' := no (y_far (y_wf (wpos nw S.2) nl S.2) (lvf S.2) l t f0 (lvf S.2 i)).toNatClampNeg q qL
      rw [etq] at no'
      exact absurd ⟨i, i1, i3, w⟩ no'
  · obtain ⟨h', π, hB, ha, hv⟩ := q2 a L fr e
    obtain ⟨R, x, r1, r2, r3, r4, r5, r6, r7⟩ := ring_some (f := f0) d6 hW inj hB ha hv
    refine ⟨R, x, r1, r4, r2, ?_, fun j => if j ≤ R then lvf S.2 (x j) else t, fun j hj => if_pos hj, fun ef => ?_⟩
    · rw [← r3]
      exact pth_ok (R := R) (s := q) (fun j hj => by have := r4 j hj; omega) r2 r6 (fun j h0 hj => (r5 j h0 hj).2) R 12 (Nat.le_refl _) (by omega)
    · refine ⟨?_, if_neg (by omega), r1, fun j hj => ?_, fun j h0 hj => ?_, fun j hj => ?_⟩
      · dsimp only
        rw [if_pos (Nat.zero_le _), r2, etq]
      · dsimp only
        rw [if_pos hj]
        have := (lvm (x j) (r4 j hj)).2.1
        omega
      · dsimp only
        rw [if_pos hj, ← etq]
        exact fun z => (r5 j h0 hj).1 (inj _ _ (r4 j hj) ql z)
      · dsimp only
        rw [if_pos hj, ← ef, ← etq, r7 j hj]
        by_cases c : j < R
        · rw [if_pos c, if_pos (show j + 1 ≤ R by omega)]
        · rw [if_neg c, if_neg (show ¬ j + 1 ≤ R by omega)]
end SX
