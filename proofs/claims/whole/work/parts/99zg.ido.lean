/-! doIt: the reference's invariants, both ways -/
section TJ
variable {S S' : m_S} {A : m_A} {n b l nl nl' nw nr na ne t o k c T q : Nat} {ch ch' : Nat → List Nat}
/-- when work is done -/
def S_1 (o k t : Nat) (S : m_S) : m_S := (va_up (Wk o k t S).2.1 29 0, va_up (Wk o k t S).2.2 57 (va_up (S.2 57) t ((Wk o k t S).2.1 25)))
theorem doIt_f {i n : Nat} (hf : ¬ (Wk o k t S).2.1 25 = 0) : y_doIt t o k i n S = y_drop (nI t) (-2) n (va_up (S_1 o k t S).1 65 (S.1 65 + 1), (S_1 o k t S).2) := if_neg hf
theorem doIt_d {i n : Nat} (hf : (Wk o k t S).2.1 25 = 0) : y_doIt t o k i n S = y_did t o k i n (Wk o k t S).1 (S_1 o k t S) := if_pos hf
theorem s1_A {f : Nat} (h : f ∉ [31, 9, 10, 11, 12, 57]) : (S_1 o k t S).2 f = S.2 f := by
  unfold S_1
  dsimp only
  rw [up_n (nmem h (by decide)), wk_A (fun z => h ?_)]
  simp only [List.mem_cons, List.not_mem_nil, or_false] at z ⊢
  omega
theorem s1_F {f : Nat} (h : f ∉ [25, 28, 26, 27, 30, 29]) : (S_1 o k t S).1 f = S.1 f := by
  unfold S_1
  dsimp only
  rw [up_n (nmem h (by decide)), wk_F h]
theorem nm_f {f : Nat} (h : f ∉ fp_c) : f ∉ [31, 9, 10, 11, 12, 57] ∧ f ∉ fp_L ∧ f ∉ fp_R := by
  refine ⟨fun z => h ?_, fun z => h ?_, fun z => h ?_⟩
  · have : ∀ f ∈ [31, 9, 10, 11, 12, 57], f ∈ fp_c := by decide
    exact this f z
  · have : ∀ f ∈ fp_L, f ∈ fp_c := by decide
    exact this f z
  · have : ∀ f ∈ fp_R, f ∈ fp_c := by decide
    exact this f z
theorem nm_F {f : Nat} (h : f ∉ fp_cF) : f ∉ [25, 28, 26, 27, 30, 29] := fun z => h (by
  have : ∀ f ∈ [25, 28, 26, 27, 30, 29], f ∈ fp_cF := by decide
  exact this f z)
theorem I_find (hI : I_all n b l nl nw nr na ne ch t c T S) (h1 : 1 ≤ t) (hk : k < 22) (hf : ¬ (Wk o k t S).2.1 25 = 0) (tr : ∃ q, q ≤ 16 ∧ (Wk o k t S).2.1 30 = nI q) :
    ∃ nl', I_all n b l nl' nw nr na ne ch 0 c T (y_doIt t o k na nl S) ∧ v_L nl' (y_doIt t o k na nl S).2 = ((v_L nl S.2).filter (kp true t)).map (uf t) ∧ (∀ f, f ∉ fp_L → (y_doIt t o k na nl S).2 f = (S_1 o k t S).2 f) ∧ (∀ f, f ≠ 72 → f ≠ 65 → (y_doIt t o k na nl S).1 f = (S_1 o k t S).1 f) ∧ (y_doIt t o k na nl S).1 65 = S.1 65 + 1 := by
  have hI0 := hI
  obtain ⟨hL, hD, hE, hK, hV, hM, hP, hX⟩ := hI
  obtain ⟨tm, t2, st⟩ := lv_mem hD h1
  have hch := hL.2.2.2.2.2.2.1 t h1 t2 (Or.inl (Or.inl st))
  rw [doIt_f hf]
  obtain ⟨nl', _, v2, v3⟩ := v_yd (nl := nl) (S := (va_up (S_1 o k t S).1 65 (S.1 65 + 1), (S_1 o k t S).2)) (u := nI t) (v := -2)
  have fA : ∀ f, f ∉ fp_L → (y_drop (nI t) (-2) nl (va_up (S_1 o k t S).1 65 (S.1 65 + 1), (S_1 o k t S).2)).2 f = (S_1 o k t S).2 f := fun f hf => yd_A hf
  have fF : ∀ f, f ≠ 72 → f ≠ 65 → (y_drop (nI t) (-2) nl (va_up (S_1 o k t S).1 65 (S.1 65 + 1), (S_1 o k t S).2)).1 f = (S_1 o k t S).1 f := fun f h1 h2 => by
    rw [yd_F h1]; dsimp only; rw [up_n h2]
  have fg : (y_drop (nI t) (-2) nl (va_up (S_1 o k t S).1 65 (S.1 65 + 1), (S_1 o k t S).2)).1 65 = S.1 65 + 1 := by
    rw [yd_F (by decide)]; dsimp only; rw [up_s]
  generalize y_drop (nI t) (-2) nl (va_up (S_1 o k t S).1 65 (S.1 65 + 1), (S_1 o k t S).2) = S' at *
  dsimp only at v3
  rw [v_L_cg (A := S.2) (fun f hf => s1_A (by revert f; decide))] at v3
  have vL : v_L nl' S'.2 = ((v_L nl S.2).filter (kp true t)).map (uf t) := by
    have e1 : (v_L nl S.2).filter (fun x => !v_go (nI t) (-2) x) = (v_L nl S.2).filter (kp true t) := List.filter_congr (fun x hx => by
      obtain ⟨u, o, v, a1, a2, a3, a4, a5, a6, a7, a8, a9, b1, b2, b3⟩ := hK.2.2.2.2.1 x hx
      unfold v_go kp
      have e0 : (x.2.2.2.2.2.1 == (-2 : Int32)) = false := by
        rw [a9, beq_eq_false_iff_ne]
        intro z
        have : v = 0 ∨ v = 1 ∨ v = 2 ∨ v = 3 ∨ v = 4 := by omega
        rcases this with rfl | rfl | rfl | rfl | rfl <;> exact absurd z (by decide)
      rw [e0, show ((-2 : Int32) == -1) = false from by decide, show ((-2 : Int32) == -2) = true from by decide, Bool.false_or, Bool.true_and, Bool.or_false, Bool.true_and])
    rw [v3, e1]
    have e2 : ((v_L nl S.2).filter (kp true t)).map (uf t) = ((v_L nl S.2).filter (kp true t)).map id := List.map_congr_left (fun x hx => by
      have hx2 := (List.mem_filter.mp hx).2
      unfold uf
      by_cases c : x.1 = nI t
      · rw [if_pos c]
        unfold kp at hx2
        rw [beq_iff_eq.mpr c, Bool.true_and, Bool.true_and, Bool.not_eq_true', bne_eq_false_iff_eq] at hx2
        rw [← hx2]
        rfl
      · rw [if_neg c]; rfl)
    rw [e2, List.map_id]
  have eA : ∀ f, f ∉ fp_c → S'.2 f = S.2 f := fun f h => by rw [fA f (nm_f h).2.1, s1_A (nm_f h).1]
  have eF : ∀ f, f ∉ fp_cF → S'.1 f = S.1 f := fun f h => by rw [fF f (nmem h (by decide)) (nmem h (by decide)), s1_F (nm_F h)]
  have w := wk_do (o := o) (t := t) (S := S) hk
  have same : ∀ f, f ∉ fp_L → f ∉ [31, 9, 10, 11, 12, 57] → S'.2 f = S.2 f := fun f h1 h2 => by rw [fA f h1, s1_A h2]
  have rwe : rw_eq nr S.2 S'.2 := fun j _ => ⟨by rw [same _ (by decide) (by decide)], by rw [same _ (by decide) (by decide)], by rw [same _ (by decide) (by decide)], by rw [same _ (by decide) (by decide)], by rw [same _ (by decide) (by decide)], by rw [same _ (by decide) (by decide)], by rw [same _ (by decide) (by decide)], by rw [same _ (by decide) (by decide)]⟩
  have ace : ac_eq S.2 S'.2 := ⟨same _ (by decide) (by decide), same _ (by decide) (by decide), same _ (by decide) (by decide), same _ (by decide) (by decide), same _ (by decide) (by decide), same _ (by decide) (by decide), same _ (by decide) (by decide), same _ (by decide) (by decide), same _ (by decide) (by decide)⟩
  have est := same 47 (by decide) (by decide)
  have esz : S'.2 10 = S.2 10 := by
    rw [fA _ (by decide)]
    unfold S_1
    dsimp only
    rw [up_n (by decide)]
    rcases w.2.2.2.2.2.1 with z | z | z
    · exact z.1
    · exact absurd z.1 hf
    · exact absurd z.1 hf
  have eth : S'.2 11 = S.2 11 := by
    rw [fA _ (by decide)]
    unfold S_1
    dsimp only
    rw [up_n (by decide)]
    rcases w.2.2.2.2.2.2 with z | z | z
    · exact z.1
    · exact absurd z.1 hf
    · exact absurd z.1 hf
  have lg : I_lg n b nr na ch S' := hL.cg ((by rw [fF _ (by decide) (by decide), s1_F (by decide)] : S'.1 13 = S.1 13).trans hL.1) (Nat.le_refl _) rwe (fun j j1 j2 => by omega) (by rw [fF _ (by decide) (by decide), s1_F (by decide)]) ace (same _ (by decide) (by decide)) (same _ (by decide) (by decide)) (same _ (by decide) (by decide)) (same _ (by decide) (by decide)) esz eth (fun _ _ _ _ => rfl) (fun u _ _ _ => ⟨by rw [same _ (by decide) (by decide)], by rw [same _ (by decide) (by decide)]⟩) (fun u _ _ => by unfold undw; rw [est]; exact ⟨id, Or.inr⟩)
  refine ⟨nl', I_end (d := 0) hI0 h1 eA eF ?_ ?_ (by omega) ?_ (fun u hu => ⟨by rw [same _ (by decide) (by decide)], ?_⟩) rwe (fun j j1 j2 => by omega) (fun i _ => ⟨by rw [ace.1], by rw [ace.2.1], by rw [ace.2.2.1], by rw [ace.2.2.2.1], by rw [ace.2.2.2.2.1], by rw [ace.2.2.2.2.2.1], by rw [ace.2.2.2.2.2.2.1], by rw [ace.2.2.2.2.2.2.2.1], by rw [ace.2.2.2.2.2.2.2.2]⟩) (fun _ _ => rfl) lg ?_, vL, fA, fF, fg⟩
  · obtain ⟨q, q1, q2⟩ := tr
    refine ⟨q, q1, ?_⟩
    rw [fF _ (by decide) (by decide)]
    unfold S_1
    dsimp only
    rw [up_n (by decide)]
    exact q2
  · rw [fF _ (by decide) (by decide)]
    unfold S_1
    dsimp only
    rw [up_s]
  · rw [same _ (by decide) (by decide)]
    funext u
    by_cases e : u = t
    · subst e; rw [up_s]; exact hch.1
    · rw [up_n e]
  · rw [fA _ (by decide)]
    unfold S_1
    dsimp only
    rw [up_s, up_n hu]
  · refine hK.fin (dr := true) h1 hD.1 (fun f hf => eA f (by revert f; decide)) v2 (eF _ (by decide)) vL st (fun u u1 u2 hu p i hp hkk => ?_)
    rw [ace.2.2.1] at hkk
    unfold undw at hu
    rw [est] at hu
    obtain ⟨x, x1, x2, x3, x4, x5, x6, x9, v, v4, x7, x8⟩ := hK.2.2.2.2.2.2.2.2.2.2.2.2 u u1 u2 hu p i hp hkk
    obtain ⟨e1, e2, e3, e4, e5, e6, e7⟩ := uf_1 (t := t) (x := x)
    refine ⟨uf t x, by rw [vL]; exact List.mem_map.mpr ⟨x, List.mem_filter.mpr ⟨x1, by unfold kp; rw [x9]; simp⟩, rfl⟩, e1.trans x2, by rw [ace.2.1]; exact e2.trans x3, e3.trans x4, by rw [ace.2.2.1]; exact e4.trans x5, by rw [ace.2.2.2.1]; exact e5.trans x6, by rw [e7, x9]; split <;> rfl, v, v4, e6.trans x7, ?_⟩
    rw [same _ (by decide) (by decide)]
    exact x8
end TJ
