/-! a shelf with one more thing -/
section VD
variable {Z Z' : k_Z} {P P' : k_P} {U U' : k_U} {r r' : Nat × Nat} {S S' : m_S} {N own s n nr x x0 : Nat} {so p v d : Int32}
theorem kb_0 {i : Nat} (hi : i < 8) : ¬ k_b 0 i = true := by
  revert i
  decide
theorem vm_eq : (if so = 7 then -1 else if k_hv so = true then v else 0) = y_vm so v := by
  unfold y_vm
  have e : k_hv so = y_cnt so := rfl
  rw [e]
  by_cases c : so = 7
  · subst c; rfl
  · rw [if_neg c, if_neg c]
theorem put_sh (hS : R_sh P U s n S.2 x0) (hs : k_Sh Z P U s n) (E : k_E N own Z U r) (hn : n < 40) (hx : x0 = 0 ∨ x0 = 40) (pt : Pt N own s n so p v Z P U r x Z' P' U' r') (mk : Mk so p v d n nr S S') (hd : k_dep P U s n p + 1 = d) : k_Sh Z' P' U' s (n + 1) ∧ R_sh P' U' s (n + 1) S'.2 x0 ∧ k_th U' s n = x ∧ ∀ o, o < n → k_th U' s o = k_th U s o ∧ k_th U s o ≠ x := by
  obtain ⟨E', tx, zz, z2, u1, u2, u3, u4, f1, f2, p1, p2, p3, p4, p5, ro⟩ := pt
  obtain ⟨eA, eF, m1, m2, m3, rwe, rwn, e1, e2, e3, e4, e5, e6, e7, e8, e9, e10⟩ := mk
  have ts' : Z'.1 s = 9 := by rw [zz s (by rw [hs.1]; decide)]; exact hs.1
  have t1' := (E'.1.shf ts').1
  have thN : k_th U' s n = x := by unfold k_th; rw [u3, up_s]; rfl
  have thO : ∀ o, o < n → k_th U' s o = k_th U s o := fun o ho => by unfold k_th; rw [u3, up_n (by omega)]
  have thX : ∀ o, o < n → k_th U s o ≠ x := fun o ho z => by
    have g1 : U'.2.2 (s + 1) o = some x := by rw [u3, up_n (by omega), ← z]; exact hs.2.2.2 o ho
    have g2 : U'.2.2 (s + 1) n = some x := by rw [u3, up_s]
    have := (E'.2.2.2.1 _ o _ n _ (Or.inl t1') (Or.inl t1') g1 g2).2
    omega
  refine ⟨⟨ts', p5, by omega, fun o ho => ?_⟩, fun o ho => ?_, thN, fun o ho => ⟨thO o ho, thX o ho⟩⟩
  · by_cases co : o = n
    · subst co; rw [thN, u3, up_s]
    · rw [thO o (by omega), u3, up_n co]; exact hs.2.2.2 o (by omega)
  · by_cases co : o = n
    · subst co
      have n1 : ¬ (x0 + o = 40 + o ∧ False) := fun z => z.2
      have vv : S'.2 9 (x0 + o) = y_vm so v ∧ S'.2 10 (x0 + o) = 0 ∧ S'.2 11 (x0 + o) = 0 := by
        rw [e5, e6, e7]
        rcases hx with h | h
        · subst h
          rw [Nat.zero_add, up_n (by omega), up_s, up_n (by omega), up_s, up_n (by omega), up_s]
          exact ⟨rfl, rfl, rfl⟩
        · subst h
          rw [up_s, up_s, up_s]
          exact ⟨rfl, rfl, rfl⟩
      have pv : P'.1 223 x = y_vm so v := p4.trans vm_eq
      rw [thN, e1, e2, e3, up_s, up_s, up_s]
      refine ⟨p1, p2, by rw [p3]; exact hd, ⟨fun h4 => ?_, fun h5 => ?_, fun h4 h5 => ⟨by rw [pv, vv.1], vv.2.1, vv.2.2⟩⟩, fun h7 => Or.inl ?_⟩
      · subst h4
        exact ⟨0, by omega, by rw [pv]; rfl, by rw [vv.2.1]; rfl, by rw [vv.1]; rfl, vv.2.2, fun i hi => by omega⟩
      · subst h5
        exact ⟨by rw [pv, vv.2.2]; rfl, by rw [vv.1]; rfl, vv.2.1, fun i hi hb => absurd hb (by rw [vv.2.2]; exact kb_0 hi)⟩
      · subst h7
        rw [vv.1]; rfl
    · have ho' : o < n := by omega
      obtain ⟨tt, tc⟩ := k_th_t E.1 hs ho'
      have tl : k_th U s o < r.1 := E.lt (by rw [tt]; decide)
      have tl1 : k_th U s o + 1 < r.1 := E.lt (by rw [tc]; decide)
      have fp : ∀ f, f ≠ 161 → P'.1 f (k_th U s o) = P.1 f (k_th U s o) := fun f hf => f1 f _ tl (thX o ho') (Or.inl hf)
      have vv : S'.2 9 (x0 + o) = S.2 9 (x0 + o) ∧ S'.2 10 (x0 + o) = S.2 10 (x0 + o) ∧ S'.2 11 (x0 + o) = S.2 11 (x0 + o) := by
        have q1 : x0 + o ≠ n := by rcases hx with h | h <;> omega
        have q2 : x0 + o ≠ 40 + n := by rcases hx with h | h <;> omega
        rw [e5, e6, e7, up_n q2, up_n q1, up_n q2, up_n q1, up_n q2, up_n q1]
        exact ⟨rfl, rfl, rfl⟩
      obtain ⟨h1, h2, h3, ⟨h4, h5, h6⟩, h7⟩ := hS o ho'
      have it := eA 12 (by decide) (by decide)
      rw [thO o ho', e1, e2, e3, up_n co, up_n co, up_n co]
      unfold R_vl R_sl
      rw [fp 220 (by decide), fp 221 (by decide), fp 222 (by decide), fp 223 (by decide), f2 _ tl1, vv.1, vv.2.1, vv.2.2, it]
      refine ⟨h1, h2, h3, ⟨h4, h5, h6⟩, fun z => ?_⟩
      rcases h7 z with e | ⟨q, q1, q2⟩
      · exact Or.inl e
      · exact Or.inr ⟨q, by omega, q2⟩
end VD
