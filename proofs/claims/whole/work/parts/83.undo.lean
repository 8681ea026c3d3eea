/-! undoing acts: the class beside the reference -/
section RL
variable {g : e_G} {Ψ : e_Q} {B : Nat → Option e_Cl} {Z Z' Z'' : k_Z} {P P' P'' : k_P} {U U' U'' : k_U} {r r' : Nat × Nat} {S : m_S} {N own n b nr na t i : Nat} {ch : Nat → List Nat}
/-- the lists there are -/
def k_li (own : Nat) (U : k_U) (a : Nat) : Prop := a = own + 14 ∨ a = own + 15 ∨ a = own + 16 ∨ a = own + 18 ∨ ∃ i x, i < 40 ∧ U.2.2 (own + 13) i = some x ∧ (a = x + 1 ∨ a = x + 2)
/-- where they are: the class's cells leave room for the reference's -/
def k_Q (N own : Nat) (Z : k_Z) (U : k_U) (r : Nat × Nat) : Prop := own + 98 ≤ r.1 ∧ (∀ a, Z.1 a ≠ 0 → own ≤ a ∧ (a < own + 26 ∨ own + 98 ≤ a)) ∧ ∀ a, k_in N a → a < r.1 ∧ k_li own U a
theorem k_Q.cg (h : k_Q N own Z U r) (hr : r.1 ≤ r'.1) (hz : ∀ a, a < r.1 → Z'.1 a = Z.1 a) (hu : U'.2.2 (own + 13) = U.2.2 (own + 13)) : k_Q N own Z' U' r' := by
  obtain ⟨h1, h2, h3⟩ := h
  refine ⟨by omega, fun a ha => ?_, fun a ha => ⟨by have := (h3 a ha).1; omega, ?_⟩⟩
  · by_cases c : a < r.1
    · rw [hz a c] at ha; exact h2 a ha
    · exact ⟨by omega, Or.inr (by omega)⟩
  · unfold k_li
    rw [hu]
    exact (h3 a ha).2
/-- the class's world: types, room ahead, no two places for one thing -/
def k_E (N own : Nat) (Z : k_Z) (U : k_U) (r : Nat × Nat) : Prop := k_W N Z U ∧ Z.1 own = 13 ∧ (∀ a, r.1 ≤ a → Z.1 a = 0 ∧ Z.2.1 a = 0) ∧ (∀ a i a' i' x, (Z.1 a = 20 ∨ Z.1 a = 21) → (Z.1 a' = 20 ∨ Z.1 a' = 21) → U.2.2 a i = some x → U.2.2 a' i' = some x → a = a' ∧ i = i') ∧ k_Q N own Z U r
theorem k_E.ro (E : k_E N own Z U r) {C C' : Nat → Nat} {r1 r2 : Nat × Nat} {x y a : Nat} (h : k_ro N x y C r1 C' r2) (ha : r.1 ≤ a) : C' a = C a := by
  rcases h.2.2.2.2 a with e | e
  · exact e
  · have := (E.2.2.2.2.2.2 a e.2.2).1
    omega
theorem k_E.lt (E : k_E N own Z U r) {a : Nat} (h : Z.1 a ≠ 0) : a < r.1 := by
  by_cases c : a < r.1
  · exact c
  · exact absurd (E.2.2.1 a (by omega)).1 h
theorem k_E.ap (E : k_E N own Z U r) {s : Nat} (hs : k_Sh Z P U s n) : R_ap U s n := by
  obtain ⟨a1, a2, a3⟩ := E.1.shf hs.1
  refine ⟨fun o o' h1 h2 e => (E.2.2.2.1 _ o _ o' _ (Or.inl a1) (Or.inl a1) (hs.2.2.2 o h1) (by rw [e]; exact hs.2.2.2 o' h2)).2, fun o ho e => ?_⟩
  have := (k_th_t E.1 hs ho).1
  rw [e, a2] at this
  exact absurd this (by decide)
/-- what has not changed -/
def FR (X : Nat → Nat → Prop) (Y V Q : Nat → Prop) (Z : k_Z) (P : k_P) (U : k_U) (r : Nat × Nat) (Z' : k_Z) (P' : k_P) (U' : k_U) : Prop :=
  (∀ a, a < r.1 → Z'.1 a = Z.1 a ∧ Z'.2.2 a = Z.2.2 a ∧ U'.2.2 a = U.2.2 a) ∧ (∀ f a, a < r.1 → ¬ X f a → P'.1 f a = P.1 f a) ∧ (∀ a, a < r.1 → ¬ Y a → P'.2 a = P.2 a) ∧ (∀ a, a < r.1 → ¬ V a → U'.2.1 a = U.2.1 a) ∧ ∀ a, a < r.1 → ¬ Q a → U'.1 a = U.1 a
theorem FR.rf {X : Nat → Nat → Prop} {Y V Q : Nat → Prop} : FR X Y V Q Z P U r Z P U := ⟨fun _ _ => ⟨rfl, rfl, rfl⟩, fun _ _ _ _ => rfl, fun _ _ _ => rfl, fun _ _ _ => rfl, fun _ _ _ => rfl⟩
theorem FR.tr {X : Nat → Nat → Prop} {Y V Q : Nat → Prop} (h : FR X Y V Q Z P U r Z' P' U') (k : FR X Y V Q Z' P' U' r' Z'' P'' U'') (hr : r.1 ≤ r'.1) : FR X Y V Q Z P U r Z'' P'' U'' := by
  refine ⟨fun a ha => ?_, fun f a ha hx => ?_, fun a ha hx => ?_, fun a ha hx => ?_, fun a ha hx => ?_⟩
  · obtain ⟨h1, h2, h3⟩ := h.1 a ha
    obtain ⟨k1, k2, k3⟩ := k.1 a (by omega)
    exact ⟨k1.trans h1, k2.trans h2, k3.trans h3⟩
  · exact (k.2.1 f a (by omega) hx).trans (h.2.1 f a ha hx)
  · exact (k.2.2.1 a (by omega) hx).trans (h.2.2.1 a ha hx)
  · exact (k.2.2.2.1 a (by omega) hx).trans (h.2.2.2.1 a ha hx)
  · exact (k.2.2.2.2 a (by omega) hx).trans (h.2.2.2.2 a ha hx)
theorem FR.mono {X X2 : Nat → Nat → Prop} {Y V Q Y2 V2 Q2 : Nat → Prop} (h : FR X Y V Q Z P U r Z' P' U') (hX : ∀ f a, X f a → X2 f a) (hY : ∀ a, Y a → Y2 a) (hV : ∀ a, V a → V2 a) (hQ : ∀ a, Q a → Q2 a) : FR X2 Y2 V2 Q2 Z P U r Z' P' U' :=
  ⟨h.1, fun f a ha hx => h.2.1 f a ha (fun z => hx (hX f a z)), fun a ha hx => h.2.2.1 a ha (fun z => hx (hY a z)), fun a ha hx => h.2.2.2.1 a ha (fun z => hx (hV a z)), fun a ha hx => h.2.2.2.2 a ha (fun z => hx (hQ a z))⟩
theorem idx_inj {l : List Nat} (nd : l.Nodup) {i j x : Nat} (h1 : l[i]? = some x) (h2 : l[j]? = some x) : i = j := by
  obtain ⟨a1, e1⟩ := List.getElem?_eq_some_iff.mp h1
  obtain ⟨a2, e2⟩ := List.getElem?_eq_some_iff.mp h2
  have h3 := k_ix_get nd a1
  have h4 := k_ix_get nd a2
  rw [e1] at h3
  rw [e2] at h4
  omega
/-- one act undone: the class's log -/
theorem K_tb {l : List Nat} {m x : Nat} {P4 : k_P} (hb : b ≤ 400) (hI : I_lg n b nr na ch S) (hK : K_lg own b nr ch P U S) (h1 : 1 ≤ t) (h2 : t ≤ b) (hu : undw S.2 t) (hc : ch t = i :: l) (hn : nr ≤ 1500) (hx : (U.2.1 (own + 18))[ar S.2 i]? = some x) (hm : m ∉ U.2.1 (own + 18))
    (e1 : ∀ f, f = 140 ∨ f = 141 ∨ f = 142 ∨ f = 143 ∨ f = 144 ∨ f = 145 ∨ f = 146 ∨ f = 147 ∨ f = 148 → ∀ y, y ∈ U.2.1 (own + 18) → P4.1 f y = P.1 f y) (e2 : ∀ y, y ∈ U.2.1 (own + 18) → P4.1 149 y = if y = x then 1 else P.1 149 y)
    (e3 : P4.1 140 m = 3 ∧ P4.1 141 m = P.1 141 x ∧ P4.1 142 m = P.1 142 x ∧ P4.1 143 m = P.1 143 x ∧ P4.1 144 m = P.1 144 x ∧ P4.1 145 m = P.1 145 x ∧ P4.1 146 m = P.1 146 x ∧ P4.1 147 m = nI (ar S.2 i) ∧ P4.1 149 m = 0) (eU : U'.2.1 (own + 18) = U.2.1 (own + 18) ++ [m]) : K_lg own b (nr + 1) (up1 ch t l) P4 U' (y_tb1 t S) := by
  obtain ⟨g1, g2, g3, g4, g5, g6, g7, g8, g9, g10⟩ := hI
  obtain ⟨k1, k2, k3, k4, k5⟩ := hK
  have hch := g7 t h1 h2 (Or.inl hu)
  rw [hc] at hch
  have ei : S.2 53 t = nI i := hch.2.2.1.1
  obtain ⟨a1, a2, a3, a4, a5, a6, a7, a8, a9, b1, b2, b3⟩ := hch.2.2.2.1 i List.mem_cons_self
  have ci : (S.2 53 t).toNatClampNeg = i := by rw [ei, i_cl (by omega)]
  have rowq := ytb_row (t := t) g1 (by omega)
  rw [ci] at rowq
  have rwe := rw_of rowq.2
  have ace : ac_eq S.2 (y_tb1 t S).2 := ⟨ytb_A (by decide), ytb_A (by decide), ytb_A (by decide), ytb_A (by decide), ytb_A (by decide), ytb_A (by decide), ytb_A (by decide), ytb_A (by decide), ytb_A (by decide)⟩
  have est : (y_tb1 t S).2 47 = S.2 47 := ytb_A (by decide)
  have und : ∀ u, undw (y_tb1 t S).2 u ↔ undw S.2 u := fun u => by unfold undw; rw [est]
  have hxm : x ∈ U.2.1 (own + 18) := List.mem_of_getElem? hx
  obtain ⟨x1, x2, x3, x4, x5, x6, x7, x8⟩ := (k3 _ x hx).1
  have old : ∀ ρ y, ρ < nr → (U'.2.1 (own + 18))[ρ]? = some y → (U.2.1 (own + 18))[ρ]? = some y := fun ρ y hρ h => by
    rw [eU, List.getElem?_append_left (by omega)] at h
    exact h
  have new : ∀ y, (U'.2.1 (own + 18))[nr]? = some y → y = m := fun y h => by
    rw [eU, List.getElem?_append_right (by omega), k1, Nat.sub_self] at h
    cases h; rfl
  have lt : ∀ ρ y, (U'.2.1 (own + 18))[ρ]? = some y → ρ < nr + 1 := fun ρ y h => by
    have := (List.getElem?_eq_some_iff.mp h).1
    rw [eU, List.length_append, k1] at this
    exact this
  refine ⟨by rw [eU, List.length_append, k1]; rfl, ?_, fun ρ y hy => ?_, fun u u1 u2 hus ρ y hy hw ho => ?_, fun u u1 u2 hus j hj y hy => ?_⟩
  · rw [eU, List.nodup_append]
    refine ⟨k2, by simp, fun a ha c hc' => ?_⟩
    rw [List.mem_singleton] at hc'
    subst hc'
    exact fun z => hm (z ▸ ha)
  · by_cases c : ρ = nr
    · subst c
      have := new y hy
      subst this
      obtain ⟨q1, q2, q3, q4, q5, q6, q7, q8⟩ := rowq.1
      unfold lg_row
      rw [q1, q2, q3, q4, q5, q6, q7, q8, e3.1, e3.2.1, e3.2.2.1, e3.2.2.2.1, e3.2.2.2.2.1, e3.2.2.2.2.2.1, e3.2.2.2.2.2.2.1, e3.2.2.2.2.2.2.2.1, e3.2.2.2.2.2.2.2.2, x2, x3, x4, x5, x6, x7]
      exact ⟨⟨rfl, a5, a6.symm, a7.symm, a8.symm, a9.symm, b1.symm, a2.symm⟩, Or.inl rfl⟩
    · have hρ : ρ < nr := by have := lt ρ y hy; omega
      have hy' := old ρ y hρ hy
      have ym := List.mem_of_getElem? hy'
      obtain ⟨w1, w2⟩ := k3 ρ y hy'
      obtain ⟨r1, r2, r3, r4, r5, r6, r7, r8⟩ := rwe ρ hρ
      refine ⟨?_, ?_⟩
      · unfold lg_row at w1 ⊢
        rw [r1, r2, r3, r4, r5, r6, r7, r8, e1 _ (by decide) y ym, e1 _ (by decide) y ym, e1 _ (by decide) y ym, e1 _ (by decide) y ym, e1 _ (by decide) y ym, e1 _ (by decide) y ym, e1 _ (by decide) y ym, e1 _ (by decide) y ym]
        exact w1
      · rw [e2 y ym]
        by_cases c2 : y = x
        · rw [if_pos c2]; exact Or.inr rfl
        · rw [if_neg c2]; exact w2
  · rw [est, und] at hus
    have hρ : ρ < nr := by
      have := lt ρ y hy
      by_cases c : ρ = nr
      · subst c
        rw [rowq.1.1] at hw
        exact absurd hw (by decide)
      · omega
    have hy' := old ρ y hρ hy
    have ym := List.mem_of_getElem? hy'
    obtain ⟨r1, r2, r3, r4, r5, r6, r7, r8⟩ := rwe ρ hρ
    rw [r1] at hw
    rw [r2] at ho
    have w := k4 u u1 u2 hus ρ y hy' hw ho
    rw [e2 y ym]
    by_cases c : u = t
    · subst c
      rw [up1_s]
      rw [hc] at w
      by_cases c2 : y = x
      · rw [if_pos c2]
        subst c2
        have eρ := idx_inj k2 hy' hx
        refine ⟨fun z => absurd z (by decide), fun ⟨j, hj, ej⟩ => ?_⟩
        have := (List.pairwise_cons.mp hch.2.2.2.2).1 j hj
        rw [ar_cg ace] at ej
        omega
      · rw [if_neg c2, w]
        refine ⟨fun ⟨j, hj, ej⟩ => ?_, fun ⟨j, hj, ej⟩ => ⟨j, List.mem_cons_of_mem _ hj, by rw [ar_cg ace] at ej; exact ej⟩⟩
        rcases List.mem_cons.mp hj with e | e
        · subst e
          rw [ej, hy'] at hx
          cases hx
          exact absurd rfl c2
        · exact ⟨j, e, by rw [ar_cg ace]; exact ej⟩
    · rw [up1_n c]
      have c2 : y ≠ x := fun e => by
        subst e
        have eρ := idx_inj k2 hy' hx
        rw [eρ, a5, i_eq (by omega) (by omega)] at ho
        exact c ho.symm
      rw [if_neg c2, w]
      constructor
      · rintro ⟨j, hj, ej⟩; exact ⟨j, hj, by rw [ar_cg ace]; exact ej⟩
      · rintro ⟨j, hj, ej⟩; exact ⟨j, hj, by rw [ar_cg ace] at ej; exact ej⟩
  · rw [est, und] at hus
    have hj' : j ∈ ch u := by
      by_cases c : u = t
      · subst c; rw [up1_s] at hj; rw [hc]; exact List.mem_cons_of_mem _ hj
      · rw [up1_n c] at hj; exact hj
    have ha := (g7 u u1 u2 hus).2.2.2.1 j hj'
    rw [ar_cg ace] at hy
    have hy' := old _ y ha.2.2.1 hy
    have ym := List.mem_of_getElem? hy'
    have := k5 u u1 u2 hus j hj' y hy'
    rw [e1 _ (by decide) y ym, ace.2.2.1, ace.2.2.2.2.2.2.1, ace.2.2.2.2.2.2.2.1]
    exact this
end RL
