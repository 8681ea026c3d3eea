/-! cut: the reference's invariants behind it -/
section VS
variable {S S' : m_S} {n b l nl nw nr na ne c T ν no ne' t : Nat} {ch : Nat → List Nat}
def fp_vA : List Nat := [9, 10, 11, 12, 100, 101, 97, 98, 99]
/-- the arrays behind a cut -/
def CtA (C : Nat → Bool) (b : Nat) (A A' : m_A) : Prop := (∀ f, f ∉ fp_cu → f ∉ fp_vA → A' f = A f) ∧ ∀ f ∈ fp_cu, ∀ u, A' f u = if 1 ≤ u ∧ u ≤ b ∧ C u = true then cuV f else A f u
theorem cb_und (hD : I_de b l 0 S) (h1 : 1 ≤ t) (h2 : t ≤ b) : Cb S ν t = true ↔ undw S.2 t ∨ (S.2 47 t = 3 ∧ nI ν ≤ S.2 59 t) := by
  unfold Cb
  rw [Bool.or_eq_true, Bool.and_eq_true, decide_eq_true_eq, decide_eq_true_eq, decide_eq_true_eq]
  have : S.2 47 t ≤ 2 ↔ undw S.2 t := by
    unfold undw
    rcases st_cases hD h1 h2 with w | w | w | w <;> rw [w] <;> decide
  rw [this]
/-- who is not cut stays ended -/
theorem cut_st (hD : I_de b l 0 S) (cA : CtA (Cb S ν) b S.2 S'.2) (h1 : 1 ≤ t) (h2 : t ≤ b) : ¬ undw S'.2 t ∧ (S'.2 47 t = 3 → S.2 47 t = 3 ∧ Cb S ν t = false ∧ ∀ f ∈ fp_cu, S'.2 f t = S.2 f t) := by
  have e := cA.2 47 (by decide) t
  by_cases cc : Cb S ν t = true
  · rw [if_pos ⟨h1, h2, cc⟩] at e
    have e : S'.2 47 t = 4 := e
    refine ⟨fun z => ?_, fun z => ?_⟩
    · unfold undw at z; rw [e] at z; exact absurd z (by decide)
    · rw [e] at z; exact absurd z (by decide)
  · rw [if_neg (fun z => cc z.2.2)] at e
    have cf : Cb S ν t = false := by simpa using cc
    refine ⟨fun z => cc ((cb_und hD h1 h2).mpr (Or.inl (by unfold undw at z ⊢; rw [e] at z; exact z))), fun z => ⟨by rw [← e]; exact z, cf, fun f hf => ?_⟩⟩
    rw [cA.2 f hf t, if_neg (fun z => cc z.2.2)]
/-- where the row of its end is -/
theorem cut_row (hE : I_en b ne nr ch S) (hb : b ≤ 400) (hν : ν ≤ nr) (hnr : nr ≤ 2000) (h1 : 1 ≤ t) (h2 : t ≤ b) (hs : S.2 47 t = 3) (hC : Cb S ν t = false) : ∃ e ρ, e < ne ∧ S.2 61 (e + 1) = nI t ∧ S.2 58 t = nI (e + 1) ∧ S.2 59 t = nI ρ ∧ ρ < ν ∧ S.2 17 ρ = 4 ∧ S.2 18 ρ = nI t ∧ y_cw (S.2 17) 4 0 ρ = e ∧ ∀ j ∈ ch t, ar S.2 j < ρ := by
  obtain ⟨a1, a2, a3, a4, a5, a6, a7⟩ := hE
  obtain ⟨e, e1, e2⟩ := a5 t h1 h2 hs
  obtain ⟨t', ρ, b1, b2, b3, b4, b5, b6, b7, b8, b9, c1, c2⟩ := a4 e e1
  have te : t' = t := by
    rw [e2] at b1
    have := congrArg Int32.toNatClampNeg b1
    rw [i_cl (by omega), i_cl (by omega)] at this
    exact this.symm
  subst te
  refine ⟨e, ρ, e1, e2, b5, b6, ?_, b8, b9, c1, c2⟩
  unfold Cb at hC
  rw [Bool.or_eq_false_iff, Bool.and_eq_false_iff] at hC
  rcases hC.2 with z | z
  · rw [decide_eq_false_iff_not] at z; exact absurd hs z
  · rw [decide_eq_false_iff_not, b6, i_le (by omega) (by omega)] at z
    omega
theorem I_cut (hI : I_all n b l nl nw nr na ne ch 0 c T S) (hc : c + 1 ≤ 512) (hν : ν ≤ nr) (hno : y_cw (S.2 17) 0 0 ν = no) (hne : y_cw (S.2 17) 4 0 ν = ne') (tF : CtF ν no ne' b S S') (eF : ∀ f, f ∉ fp_ctF → f ∉ fp_xF → S'.1 f = S.1 f) (cA : CtA (Cb S ν) b S.2 S'.2) (hz : w_sz S'.2) (h01 : w_01 40 (S'.2 101)) (hV' : I_ve no ne' S') : I_all no b 0 0 0 ν na ne' ch 0 (c + 1) T S' := by
  obtain ⟨hL, hD, hE, hK, hV, hM, hP, hX⟩ := hI
  have b400 := hD.1
  have nr2 : nr ≤ 2000 := by
    obtain ⟨p1, p2, p3, _⟩ := hP
    omega
  obtain ⟨f1, f2, f3, f4, f5, f6, f7, f8, f9, f10, f11⟩ := tF
  have eA := cA.1
  have nu : ∀ u, 1 ≤ u → u ≤ b → ¬ undw S'.2 u := fun u u1 u2 => (cut_st hD cA u1 u2).1
  have n2 : ∀ u, 1 ≤ u → u ≤ b → ¬ S'.2 47 u = 2 := fun u u1 u2 h => nu u u1 u2 (Or.inr h)
  have s3 : ∀ u, 1 ≤ u → u ≤ b → S'.2 47 u = 3 → S.2 47 u = 3 ∧ Cb S ν u = false ∧ ∀ f ∈ fp_cu, S'.2 f u = S.2 f u := fun u u1 u2 => (cut_st hD cA u1 u2).2
  have nle : ne' ≤ ne := by
    rw [← hne, ← hE.2.2.1]
    exact y_cw_mono hν
  have nol : no ≤ n := by
    rw [← hno, hL.2.1]
    exact y_cw_mono hν
  obtain ⟨g1, g2, g3, g4, g5, g6, g7, g8, g9, g10⟩ := hL
  have arE : ∀ j, ar S'.2 j = ar S.2 j := fun j => by unfold ar; rw [eA _ (by decide) (by decide)]
  have mdE : ∀ j, md S'.2 j = md S.2 j := fun j => by unfold md; rw [eA _ (by decide) (by decide)]
  have lv0 : v_lv 0 S'.2 = [] := rfl
  refine ⟨?_, ?_, ?_, ?_, hV', ?_, ?_, ?_⟩
  · refine ⟨f1, by rw [mdE]; exact hno.symm, ⟨by have := g3.1; omega, fun o ho => ?_⟩, (eF _ (by decide) (by decide)).trans g4, g5, fun i hi => ?_, fun u u1 u2 hu => ?_, fun u u1 u2 hu => absurd hu (nu u u1 u2), fun u u' u1 u2 u3 u4 hu1 => absurd hu1 (nu u u1 u2), hz⟩
    · rw [eA 4 (by decide) (by decide), eA 7 (by decide) (by decide), eA 5 (by decide) (by decide)]
      exact g3.2 o (by omega)
    · have := g6 i (by omega)
      unfold I_row at this ⊢
      rw [mdE, eA 17 (by decide) (by decide), eA 19 (by decide) (by decide), eA 20 (by decide) (by decide), eA 22 (by decide) (by decide), eA 21 (by decide) (by decide), eA 18 (by decide) (by decide), eA 23 (by decide) (by decide), eA 4 (by decide) (by decide), eA 5 (by decide) (by decide), eA 6 (by decide) (by decide)]
      exact this
    · have hs := hu.resolve_left (nu u u1 u2)
      obtain ⟨q1, q2, q3⟩ := s3 u u1 u2 hs
      obtain ⟨e, ρ, r1, r2, r3, r4, r5, r6, r7, r8, r9⟩ := cut_row hE b400 hν nr2 u1 u2 q1 q2
      obtain ⟨c1, c2, c3, c4, c5⟩ := g7 u u1 u2 (Or.inr q1)
      have clE : ∀ (L : List Nat) (v : Int32), cl S.2 v L → cl S'.2 v L := fun L => by
        induction L with
        | nil => intro _ _; trivial
        | cons i L ih => intro v h; exact ⟨h.1, by rw [eA _ (by decide) (by decide)]; exact ih _ h.2⟩
      refine ⟨by rw [q3 _ (by decide)]; exact c1, c2, by rw [q3 _ (by decide)]; exact clE _ _ c3, fun i hi => ?_, c5.imp (fun h => by rw [arE, arE]; exact h)⟩
      have a := c4 i hi
      have lt := r9 i hi
      unfold I_act at a ⊢
      rw [arE, eA 42 (by decide) (by decide), eA 17 (by decide) (by decide), eA 19 (by decide) (by decide), eA 20 (by decide) (by decide), eA 22 (by decide) (by decide), eA 21 (by decide) (by decide), eA 18 (by decide) (by decide), eA 23 (by decide) (by decide), eA 35 (by decide) (by decide), eA 36 (by decide) (by decide), eA 37 (by decide) (by decide), eA 38 (by decide) (by decide), eA 39 (by decide) (by decide), eA 40 (by decide) (by decide), eA 41 (by decide) (by decide)]
      exact ⟨a.1, a.2.1, by omega, a.2.2.2⟩
  · refine ⟨b400, (eF _ (by decide) (by decide)).trans hD.2.1, fun u u1 u2 => ?_, fun u u1 u2 => ?_, f8, by omega, fun i hi => by omega, List.Pairwise.nil, fun u => ⟨(fun h => by cases h), fun h => absurd h.2.2 (nu u h.1 h.2.1)⟩, Or.inl rfl, fun u u1 u2 hin => ?_⟩
    · by_cases cc : Cb S ν u = true
      · have v : ∀ f ∈ fp_cu, S'.2 f u = cuV f := fun f hf => by rw [cA.2 f hf u, if_pos ⟨u1, u2, cc⟩]
        obtain ⟨st, lv, m, q, k1, k2, k3, k4, k5, k6, k7, k8, k9, k10, _⟩ := hD.2.2.1 u u1 u2
        exact ⟨4, 0, 0, q, v 47 (by decide), by omega, by omega, v 51 (by decide), by omega, fun _ => rfl, v 52 (by decide), by omega, by rw [eA _ (by decide) (by decide)]; exact k9, k10, fun _ => 0, fun w w1 w2 => by omega⟩
      · have v : ∀ f ∈ fp_cu, S'.2 f u = S.2 f u := fun f hf => by rw [cA.2 f hf u, if_neg (fun z => cc z.2.2)]
        have := hD.2.2.1 u u1 u2
        unfold I_dl at this ⊢
        rw [v 47 (by decide), v 51 (by decide), v 52 (by decide), eA 55 (by decide) (by decide), eA 54 (by decide) (by decide)]
        exact this
    · have v : ∀ f ∈ fp_cu, S'.2 f u = S.2 f u := fun f hf => by rw [cA.2 f hf u, if_neg (fun z => by omega)]
      have := hD.2.2.2.1 u u1 u2
      rw [v 47 (by decide), v 48 (by decide), v 51 (by decide), v 52 (by decide), eA 55 (by decide) (by decide), eA 56 (by decide) (by decide), eA 57 (by decide) (by decide)]
      exact this
    · rcases hin with h | h
      · exact absurd h (n2 u u1 u2)
      · omega
  · have hE' := hE
    obtain ⟨a1, a2, a3, a4, a5, a6, a7⟩ := hE
    refine ⟨f5, by omega, by rw [eA 17 (by decide) (by decide)]; exact hne, fun e he => ?_, fun u u1 u2 hs => ?_, fun ρ hρ hw => ?_, fun u u1 u2 hs => ?_⟩
    · obtain ⟨u, ρ, b1, b2, b3, b4, b5, b6, b7, b8, b9, c1, c2⟩ := a4 e (by omega)
      have rlt : ρ < ν := by
        by_cases cr : ρ < ν
        · exact cr
        · have := y_cw_mono (f := S.2 17) (w := 4) (i := 0) (show ν ≤ ρ by omega)
          rw [hne, c1] at this
          omega
      have nC : ¬ Cb S ν u = true := fun z => by
        rcases (cb_und (ν := ν) hD b2 b3).mp z with w | w
        · unfold undw at w; rw [b4] at w; exact absurd w (by decide)
        · have := w.2
          rw [b6, i_le (by omega) (by omega)] at this
          omega
      have v : ∀ f ∈ fp_cu, S'.2 f u = S.2 f u := fun f hf => by rw [cA.2 f hf u, if_neg (fun z => nC z.2.2)]
      refine ⟨u, ρ, by rw [eA _ (by decide) (by decide)]; exact b1, b2, b3, by rw [v _ (by decide)]; exact b4, by rw [v _ (by decide)]; exact b5, by rw [eA _ (by decide) (by decide)]; exact b6, rlt, by rw [eA _ (by decide) (by decide)]; exact b8, by rw [eA _ (by decide) (by decide)]; exact b9, by rw [eA 17 (by decide) (by decide)]; exact c1, fun j hj => by rw [arE]; exact c2 j hj⟩
    · obtain ⟨q1, q2, q3⟩ := s3 u u1 u2 hs
      obtain ⟨e, ρ, r1, r2, r3, r4, r5, r6, r7, r8, r9⟩ := cut_row hE' b400 hν nr2 u1 u2 q1 q2
      refine ⟨e, ?_, by rw [eA _ (by decide) (by decide)]; exact r2⟩
      have := y_cw_mono (f := S.2 17) (w := 4) (i := 0) (show ρ + 1 ≤ ν by omega)
      rw [y_cw_s, Nat.zero_add, if_pos r6, hne] at this
      omega
    · rw [eA 17 (by decide) (by decide)] at hw ⊢
      rw [eA 61 (by decide) (by decide), eA 18 (by decide) (by decide)]
      exact a6 ρ (by omega) hw
    · by_cases cc : Cb S ν u = true
      · rw [cA.2 58 (by decide) u, if_pos ⟨u1, u2, cc⟩]; rfl
      · have v : ∀ f ∈ fp_cu, S'.2 f u = S.2 f u := fun f hf => by rw [cA.2 f hf u, if_neg (fun z => cc z.2.2)]
        rw [v _ (by decide)] at hs ⊢
        exact a7 u u1 u2 hs
  · refine ⟨f9, f10, by omega, ?_, (fun x hx => by cases hx), (fun x hx => by cases hx), List.nodup_nil, fun u u1 u2 h => absurd h (n2 u u1 u2), (fun x hx => by cases hx), List.Pairwise.nil, fun u u1 u2 h => absurd h (nu u u1 u2), ⟨(fun x hx => by cases hx), fun _ => [], fun u u1 u2 h => absurd h (nu u u1 u2)⟩, fun u u1 u2 h => absurd h (nu u u1 u2)⟩
    have := hK.2.2.2.1
    unfold w_ah at this ⊢
    rw [eA _ (by decide) (by decide)]
    exact this
  · obtain ⟨y1, y2, y3, y4, y5, y6, y7, y8, y9, y10⟩ := hM
    exact ⟨f4, f6, (eF _ (by decide) (by decide)).trans y3, by rw [eF _ (by decide) (by decide)]; exact y4, ⟨ν, Nat.le_refl _, f2⟩, by rw [eF _ (by decide) (by decide)]; exact y6, h01, ⟨0, by omega, f11⟩, by rw [eF _ (by decide) (by decide)]; exact y9, by rw [eF _ (by decide) (by decide)]; exact y10⟩
  · obtain ⟨p1, p2, p3, p4, p5, p6, p7⟩ := hP
    unfold I_po
    rw [lv0, eF 66 (by decide) (by decide)]
    simp only [List.map_nil, List.sum_nil, Nat.add_zero]
    exact ⟨by omega, by omega, hc, by omega, by omega, by omega, p7⟩
  · intro u u1 u2 hin
    rcases hin with h | h
    · exact absurd h (n2 u u1 u2)
    · omega
end VS
