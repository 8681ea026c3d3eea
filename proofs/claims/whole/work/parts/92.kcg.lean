/-! the class's side: what stays -/
section RU
variable {Z Z' : k_Z} {P P' : k_P} {U U' : k_U} {r r' : Nat × Nat} {S S' : m_S} {A : m_A} {N own n b l nl nw nr na ne t i cur c T : Nat} {cc : Int32} {ch ch' : Nat → List Nat}
def K_all (N own n b l nl nw nr ne : Nat) (ch : Nat → List Nat) (cur : Nat) (Z : k_Z) (P : k_P) (U : k_U) (r : Nat × Nat) (S : m_S) : Prop :=
  k_E N own Z U r ∧ K_lg own b nr ch P U S ∧ (k_Sh Z P U (own + 1) n ∧ R_sh P U (own + 1) n S.2 0) ∧ (k_Sh Z P U (own + 5) n ∧ R_sh P U (own + 5) n S.2 40) ∧ K_de own b l nr ch P U S ∧ K_en own ne U S ∧ K_as own b cur P U S ∧ K_lk own n b nl nw cur Z P U S ∧ K_ve own n P U S ∧ K_mi own P S
theorem dl_mem (hl : (U.2.1 (own + 14)).length = b) (h1 : 1 ≤ t) (h2 : t ≤ b) : (U.2.1 (own + 14))[t - 1]? = some (dl U own t) := by
  unfold dl
  rw [List.getD_eq_getElem?_getD, List.getElem?_eq_getElem (by omega)]
  rfl
theorem dl_inj (hl : (U.2.1 (own + 14)).length = b) (nd : (U.2.1 (own + 14)).Nodup) {u : Nat} (h1 : 1 ≤ t) (h2 : t ≤ b) (h3 : 1 ≤ u) (h4 : u ≤ b) (e : dl U own t = dl U own u) : t = u := by
  have a := dl_mem hl h1 h2
  have b' := dl_mem hl h3 h4
  rw [e] at a
  have := idx_inj nd a b'
  omega
theorem dl_t (E : k_E N own Z U r) (hl : (U.2.1 (own + 14)).length = b) (h1 : 1 ≤ t) (h2 : t ≤ b) : Z.1 (dl U own t) = 3 ∧ Z.1 (dl U own t + 1) = 2 ∧ Z.1 (dl U own t + 2) = 105 := by
  have := E.1.lde (E.1.hse E.2.1).2.2.2.2.1 (List.mem_of_getElem? (dl_mem hl h1 h2))
  exact ⟨this, E.1.dea this⟩
theorem dl_k (hl : (U.2.1 (own + 14)).length ≤ 2300) (hb : (U.2.1 (own + 14)).length = b) (h1 : 1 ≤ t) (h2 : t ≤ b) : k_dO U own (nI t) = some (dl U own t) := by
  have := k_dO_s hl (dl_mem hb h1 h2)
  rw [show t - 1 + 1 = t by omega] at this
  exact this
theorem con_hi {i k o bb x : Nat} (ho : o < 40) (hb : k = 18 ∨ k = 19 → bb < 40) (hx : 40 ≤ x) : y_con i k o bb A 9 x = A 9 x ∧ y_con i k o bb A 10 x = A 10 x ∧ y_con i k o bb A 11 x = A 11 x := by
  refine ⟨?_, con_sz (Or.inl (by omega)), con_th (Or.inl (by omega))⟩
  have no : x ≠ o := by omega
  by_cases c : k = 18 ∨ k = 19
  · have nb : x ≠ bb := by have := hb c; omega
    rcases c with rfl | rfl
    · simp (decide := true) only [y_con, if_true, if_false, up_s, up_n nb]
    · simp (decide := true) only [y_con, if_true, if_false, up_s, up_n nb, up_n no]
  · have c1 : ¬ k = 18 := fun z => c (Or.inl z)
    have c2 : ¬ k = 19 := fun z => c (Or.inr z)
    simp (decide := true) only [y_con, ite_ap, if_neg c1, if_neg c2, up_s, up_n no, up_n (show 9 ≠ 10 by decide), up_n (show 9 ≠ 11 by decide), up_n (show 9 ≠ 12 by decide), ite_self]
theorem con_hiI {i k o bb x : Nat} (ho : o < 40) (hz : k = 9 → (A 10 o).toNatClampNeg < 8) (ha : k = 12 ∨ k = 13 → (A 37 i).toNatClampNeg < 8) (hx : 320 ≤ x) : y_con i k o bb A 12 x = A 12 x := by
  by_cases c9 : k = 9
  · subst c9
    have := hz rfl
    simp (decide := true) only [y_con, if_true, if_false, up_n (show 12 ≠ 10 by decide), up_s]
    rw [up_n (by omega), va_cpy, if_neg (by omega)]
  · by_cases c12 : k = 12
    · subst c12
      have := ha (Or.inl rfl)
      simp (decide := true) only [y_con, if_true, if_false, up_s]
      rw [up_n (by omega)]
    · by_cases c13 : k = 13
      · subst c13
        have := ha (Or.inr rfl)
        simp (decide := true) only [y_con, if_true, if_false, up_s]
        rw [up_n (by omega)]
      · simp (decide := true) only [y_con, ite_ap, if_neg c9, if_neg c12, if_neg c13, up_n (show 12 ≠ 10 by decide), up_n (show 12 ≠ 11 by decide), up_n (show 12 ≠ 9 by decide), ite_self]
theorem ytb_hi (h : w_tb1 t S) {x : Nat} (hx : 40 ≤ x) : (y_tb1 t S).2 9 x = S.2 9 x ∧ (y_tb1 t S).2 10 x = S.2 10 x ∧ (y_tb1 t S).2 11 x = S.2 11 x := by
  obtain ⟨i, k, o, bb, h1, h2, h3, h4, h5, h6, h7, h8, h9, h10, h11⟩ := h
  rw [ytb_V (by decide), ytb_V (by decide), ytb_V (by decide), h5, i_cl (by omega), h6, h7, i_cl (by omega), i_cl (by omega)]
  exact con_hi h3 (fun z => by rw [(h10 z).2, i_cl (by omega)]; exact (h10 z).1) hx
theorem ytb_hiI (h : w_tb1 t S) {x : Nat} (hx : 320 ≤ x) : (y_tb1 t S).2 12 x = S.2 12 x := by
  obtain ⟨i, k, o, bb, h1, h2, h3, h4, h5, h6, h7, h8, h9, h10, h11⟩ := h
  rw [ytb_V (by decide), h5, i_cl (by omega), h6, h7, i_cl (by omega), i_cl (by omega)]
  refine con_hiI h3 (fun z => ?_) (fun z => ?_) hx
  · obtain ⟨z', z1, z2⟩ := h8 z
    rw [z2, i_cl (by omega)]; exact z1
  · obtain ⟨q, q1, q2⟩ := h9 z
    rw [q2, i_cl (by omega)]; exact q1
theorem ytbm_hi : ∀ (m : Nat) (S : m_S), w_tb t m S → (∀ x, 40 ≤ x → (y_tb t m S).2 9 x = S.2 9 x ∧ (y_tb t m S).2 10 x = S.2 10 x ∧ (y_tb t m S).2 11 x = S.2 11 x) ∧ ∀ x, 320 ≤ x → (y_tb t m S).2 12 x = S.2 12 x
  | 0, S, _ => ⟨fun _ _ => ⟨rfl, rfl, rfl⟩, fun _ _ => rfl⟩
  | m + 1, S, h => by
    obtain ⟨h1, h2⟩ := ytbm_hi m (y_tb1 t S) h.2
    refine ⟨fun x hx => ?_, fun x hx => ?_⟩
    · obtain ⟨a1, a2, a3⟩ := h1 x hx
      obtain ⟨b1, b2, b3⟩ := ytb_hi h.1 hx
      exact ⟨a1.trans b1, a2.trans b2, a3.trans b3⟩
    · exact (h2 x hx).trans (ytb_hiI h.1 hx)
/-- the log, with rows more that are no acts -/
theorem K_lg.ext (h : K_lg own b nr ch P U S) {xs : List Nat} (eU : U'.2.1 (own + 18) = U.2.1 (own + 18) ++ xs) (nd : xs.Nodup) (dj : ∀ x ∈ xs, x ∉ U.2.1 (own + 18)) (rw' : rw_eq nr S.2 S'.2) (ace : ac_eq S.2 S'.2)
    (eP : ∀ f ∈ [140, 141, 142, 143, 144, 145, 146, 147, 148, 149], ∀ y ∈ U.2.1 (own + 18), P'.1 f y = P.1 f y) (new : ∀ j x, xs[j]? = some x → lg_row P' x S'.2 (nr + j) ∧ (P'.1 149 x = 0 ∨ P'.1 149 x = 1) ∧ ¬ S'.2 17 (nr + j) = 2)
    (ec : ∀ t, 1 ≤ t → t ≤ b → undw S'.2 t ∨ S'.2 47 t = 3 → ch' t = ch t ∧ (undw S.2 t ∨ S.2 47 t = 3)) (hI : ∀ t, 1 ≤ t → t ≤ b → undw S.2 t ∨ S.2 47 t = 3 → ∀ i ∈ ch t, ar S.2 i < nr) : K_lg own b (nr + xs.length) ch' P' U' S' := by
  obtain ⟨k1, k2, k3, k4, k5⟩ := h
  have old : ∀ ρ y, ρ < nr → (U'.2.1 (own + 18))[ρ]? = some y → (U.2.1 (own + 18))[ρ]? = some y := fun ρ y hρ h => by
    rw [eU, List.getElem?_append_left (by omega)] at h
    exact h
  have hnew : ∀ ρ y, ¬ ρ < nr → (U'.2.1 (own + 18))[ρ]? = some y → xs[ρ - nr]? = some y := fun ρ y hρ h => by
    rw [eU, List.getElem?_append_right (by omega), k1] at h
    exact h
  have arc : ∀ j, ar S'.2 j = ar S.2 j := ar_cg ace
  refine ⟨by rw [eU, List.length_append, k1], ?_, fun ρ y hy => ?_, fun u u1 u2 hus ρ y hy hw ho => ?_, fun u u1 u2 hus j hj y hy => ?_⟩
  · rw [eU, List.nodup_append]
    exact ⟨k2, nd, fun a ha x hx e => dj x hx (e ▸ ha)⟩
  · by_cases c : ρ < nr
    · have hy' := old ρ y c hy
      have ym := List.mem_of_getElem? hy'
      obtain ⟨w1, w2⟩ := k3 ρ y hy'
      obtain ⟨r1, r2, r3, r4, r5, r6, r7, r8⟩ := rw' ρ c
      refine ⟨?_, by rw [eP _ (by decide) y ym]; exact w2⟩
      unfold lg_row at w1 ⊢
      rw [r1, r2, r3, r4, r5, r6, r7, r8, eP _ (by decide) y ym, eP _ (by decide) y ym, eP _ (by decide) y ym, eP _ (by decide) y ym, eP _ (by decide) y ym, eP _ (by decide) y ym, eP _ (by decide) y ym, eP _ (by decide) y ym]
      exact w1
    · have := new _ y (hnew ρ y c hy)
      rw [show nr + (ρ - nr) = ρ by omega] at this
      exact ⟨this.1, this.2.1⟩
  · by_cases c : ρ < nr
    · have hy' := old ρ y c hy
      have ym := List.mem_of_getElem? hy'
      obtain ⟨r1, r2, _⟩ := rw' ρ c
      rw [r1] at hw
      rw [r2] at ho
      obtain ⟨e1, e2⟩ := ec u u1 u2 hus
      rw [eP _ (by decide) y ym, k4 u u1 u2 e2 ρ y hy' hw ho, e1]
      simp only [arc]
    · have := new _ y (hnew ρ y c hy)
      rw [show nr + (ρ - nr) = ρ by omega] at this
      exact absurd hw this.2.2
  · obtain ⟨e1, e2⟩ := ec u u1 u2 hus
    rw [e1] at hj
    rw [arc] at hy
    have hy' := old _ y (hI u u1 u2 e2 j hj) hy
    have ym := List.mem_of_getElem? hy'
    have := k5 u u1 u2 e2 j hj y hy'
    rw [eP _ (by decide) y ym, ace.2.2.1, ace.2.2.2.2.2.2.1, ace.2.2.2.2.2.2.2.1]
    exact this
end RU
