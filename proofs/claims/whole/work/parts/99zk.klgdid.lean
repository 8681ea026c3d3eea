/-! an act is done: the class's log -/
section TN
variable {P P' : k_P} {U U' : k_U} {S S' : m_S} {own b nr na t m : Nat} {ch : Nat → List Nat}
theorem K_lg.did (h : K_lg own b nr ch P U S) (hb : b ≤ 400) (h1 : 1 ≤ t) (h2 : t ≤ b) (eU : U'.2.1 (own + 18) = U.2.1 (own + 18) ++ [m]) (hm : m ∉ U.2.1 (own + 18)) (rwe : rw_eq nr S.2 S'.2) (ha : acp na S.2 S'.2) (est : S'.2 47 = S.2 47)
    (eP : ∀ f ∈ [140, 141, 142, 143, 144, 145, 146, 147, 148, 149], ∀ y ∈ U.2.1 (own + 18), P'.1 f y = P.1 f y)
    (new : lg_row P' m S'.2 nr) (nu : P'.1 149 m = 0) (w2 : S'.2 18 nr = nI t) (an : ar S'.2 na = nr) (ak : (S'.2 36 na = 2 → P'.1 148 m = S'.2 40 na) ∧ (S'.2 36 na = 12 → S'.2 41 na = P'.1 148 m))
    (hI : ∀ t, 1 ≤ t → t ≤ b → undw S.2 t ∨ S.2 47 t = 3 → ∀ i ∈ ch t, i < na ∧ ar S.2 i < nr) : K_lg own b (nr + 1) (up1 ch t (na :: ch t)) P' U' S' := by
  obtain ⟨k1, k2, k3, k4, k5⟩ := h
  have us : ∀ u, undw S'.2 u ∨ S'.2 47 u = 3 → undw S.2 u ∨ S.2 47 u = 3 := fun u hu => by unfold undw at hu ⊢; rw [est] at hu; exact hu
  have at1 : ∀ ρ x, (U'.2.1 (own + 18))[ρ]? = some x → (ρ < nr ∧ (U.2.1 (own + 18))[ρ]? = some x ∧ x ∈ U.2.1 (own + 18)) ∨ (ρ = nr ∧ x = m) := fun ρ x e => by
    rw [eU] at e
    by_cases c : ρ < nr
    · rw [List.getElem?_append_left (by omega)] at e
      exact Or.inl ⟨c, e, List.mem_of_getElem? e⟩
    · rw [List.getElem?_append_right (by omega), k1] at e
      by_cases c0 : ρ - nr = 0
      · rw [c0] at e
        cases e
        exact Or.inr ⟨by omega, rfl⟩
      · rw [List.getElem?_eq_none (by simp only [List.length_cons, List.length_nil]; omega)] at e
        cases e
  refine ⟨by rw [eU, List.length_append, k1]; rfl, ?_, fun i x e => ?_, fun u u1 u2 hu ρ x e hw ho => ?_, fun u u1 u2 hu i hi x e => ?_⟩
  · rw [eU]
    refine List.nodup_append.mpr ⟨k2, by simp, fun a ha b' hb' => ?_⟩
    rw [List.mem_singleton] at hb'
    rw [hb']
    exact fun e => hm (e ▸ ha)
  · rcases at1 i x e with ⟨i1, i2, i3⟩ | ⟨i1, i2⟩
    · obtain ⟨z1, z2⟩ := k3 i x i2
      obtain ⟨r1, r2, r3, r4, r5, r6, r7, r8⟩ := rwe i i1
      unfold lg_row at z1 ⊢
      rw [eP _ (by decide) x i3, eP _ (by decide) x i3, eP _ (by decide) x i3, eP _ (by decide) x i3, eP _ (by decide) x i3, eP _ (by decide) x i3, eP _ (by decide) x i3, eP _ (by decide) x i3, eP _ (by decide) x i3, r1, r2, r3, r4, r5, r6, r7, r8]
      exact ⟨z1, z2⟩
    · rw [i1, i2]
      exact ⟨new, Or.inl nu⟩
  · have hu0 := us u hu
    rcases at1 ρ x e with ⟨i1, i2, i3⟩ | ⟨i1, i2⟩
    · obtain ⟨r1, r2, _⟩ := rwe ρ i1
      rw [r1] at hw
      rw [r2] at ho
      rw [eP _ (by decide) x i3, k4 u u1 u2 hu0 ρ x i2 hw ho]
      constructor
      · rintro ⟨i, j1, j2⟩
        refine ⟨i, ?_, by rw [acp_ar ha (hI u u1 u2 hu0 i j1).1]; exact j2⟩
        by_cases c : u = t
        · subst c; rw [up1_s]; exact List.mem_cons_of_mem _ j1
        · rw [up1_n c]; exact j1
      · rintro ⟨i, j1, j2⟩
        have hi : i ∈ ch u := by
          by_cases c : u = t
          · subst c
            rw [up1_s] at j1
            rcases List.mem_cons.mp j1 with z | z
            · rw [z, an] at j2; omega
            · exact z
          · rw [up1_n c] at j1; exact j1
        exact ⟨i, hi, by rw [← acp_ar ha (hI u u1 u2 hu0 i hi).1]; exact j2⟩
    · rw [i1, w2, i_eq (by omega) (by omega)] at ho
      rw [i2, nu, i1]
      refine ⟨fun _ => ⟨na, ?_, an⟩, fun _ => rfl⟩
      rw [← ho, up1_s]
      exact List.mem_cons_self ..
  · have hu0 := us u hu
    have old : i ∈ ch u → (S'.2 36 i = 2 → P'.1 148 x = S'.2 40 i) ∧ (S'.2 36 i = 12 → S'.2 41 i = P'.1 148 x) := fun hi => by
      obtain ⟨j1, j2⟩ := hI u u1 u2 hu0 i hi
      rw [acp_ar ha j1] at e
      obtain ⟨c1, c2, c3, c4, c5, c6, c7, c8, c9⟩ := ha i j1
      rcases at1 _ x e with ⟨i1, i2, i3⟩ | ⟨i1, i2⟩
      · rw [c3, c7, c8, eP _ (by decide) x i3]
        exact k5 u u1 u2 hu0 i hi x i2
      · omega
    by_cases c : u = t
    · subst c
      rw [up1_s] at hi
      rcases List.mem_cons.mp hi with z | z
      · rw [z, an] at e
        rcases at1 _ x e with ⟨i1, i2, i3⟩ | ⟨i1, i2⟩
        · omega
        · rw [z, i2]; exact ak
      · exact old z
    · rw [up1_n c] at hi
      exact old hi
end TN
