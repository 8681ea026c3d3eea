/-! versions -/
section UI
variable {g : e_G} {Ψ : e_Q} {B : Nat → Option e_Cl} {Z : k_Z} {P P' P'' : k_P} {U : k_U} {r : Nat × Nat} {S : m_S} {A0 : m_A} {N own n d ahead v o : Nat} {e dg : Int32}
/-- what telling versions leaves alone -/
def VF (own n : Nat) (U : k_U) (P P' : k_P) : Prop := (∀ f a, f ≠ 183 → P'.1 f a = P.1 f a) ∧ ∀ a, (∀ o, o < n → a ≠ k_sp U own o + 3 ∧ a ≠ k_sp U own o + 4) → P'.2 a = P.2 a
theorem VF.tr (h : VF own n U P P') (k : VF own n U P' P'') : VF own n U P P'' := ⟨fun f a hf => (k.1 f a hf).trans (h.1 f a hf), fun a ha => (k.2 a ha).trans (h.2 a ha)⟩
theorem VF.rf : VF own n U P P := ⟨fun _ _ _ => rfl, fun _ _ => rfl⟩
/-- one version more -/
def y_v1 (e : Int32) (o v : Nat) (dg : Int32) (S : m_S) : m_S := (S.1, va_up (va_up (va_up S.2 98 (va_up (S.2 98) (401 * o + v) e)) 99 (va_up (S.2 99) (401 * o + v) dg)) 97 (va_up (S.2 97) o (nI (v + 1))))
theorem kv1_r {s m : Nat} : (k_kv1 P s m e dg).1 183 s = nI (m + 1) ∧ (k_kv1 P s m e dg).2 (s + 3) = va_up (P.2 (s + 3)) m e ∧ (k_kv1 P s m e dg).2 (s + 4) = va_up (P.2 (s + 4)) m dg ∧ (∀ f a, f ≠ 183 ∨ a ≠ s → (k_kv1 P s m e dg).1 f a = P.1 f a) ∧ ∀ a, a ≠ s + 3 → a ≠ s + 4 → (k_kv1 P s m e dg).2 a = P.2 a := by
  unfold k_kv1
  refine ⟨k_rs, ?_, ?_, fun f a h => ?_, fun a h1 h2 => ?_⟩
  · show (k_wa (k_wa P (s + 3) _) (s + 4) _).2 (s + 3) = _
    rw [k_an (by omega), k_as]
  · show (k_wa (k_wa P (s + 3) _) (s + 4) _).2 (s + 4) = _
    rw [k_as]
  · by_cases c : f = 183
    · subst c
      rw [k_ra (h.resolve_left (fun h => h rfl)), k_a1, k_a1]
    · rw [k_rn c, k_a1, k_a1]
  · show (k_wa (k_wa P (s + 3) _) (s + 4) _).2 a = _
    rw [k_an h2, k_an h1]
theorem kv_r {s m : Nat} (hm : m ≤ 16) : (k_kv P s m e dg).1 183 s = nI (min (m + 1) 16) ∧ (∀ i, i < min (m + 1) 16 → (k_kv P s m e dg).2 (s + 3) i = (if i = min m 15 then e else P.2 (s + 3) (i + (m - min m 15))) ∧ (k_kv P s m e dg).2 (s + 4) i = (if i = min m 15 then dg else P.2 (s + 4) (i + (m - min m 15)))) ∧ (∀ f a, f ≠ 183 ∨ a ≠ s → (k_kv P s m e dg).1 f a = P.1 f a) ∧ ∀ a, a ≠ s + 3 → a ≠ s + 4 → (k_kv P s m e dg).2 a = P.2 a := by
  unfold k_kv
  by_cases c : m < 16
  · rw [if_pos c]
    obtain ⟨q1, q2, q3, q4, q5⟩ := kv1_r (P := P) (s := s) (m := m) (e := e) (dg := dg)
    refine ⟨by rw [q1, show min (m + 1) 16 = m + 1 by omega], fun i hi => ?_, q4, q5⟩
    rw [q2, q3, show min m 15 = m by omega, Nat.sub_self, Nat.add_zero]
    by_cases ci : i = m
    · rw [ci, up_s, up_s, if_pos rfl, if_pos rfl]; exact ⟨rfl, rfl⟩
    · rw [up_n ci, up_n ci, if_neg ci, if_neg ci]; exact ⟨rfl, rfl⟩
  · rw [if_neg c]
    have m16 : m = 16 := by omega
    subst m16
    obtain ⟨q1, q2, q3, q4, q5⟩ := kv1_r (P := k_wr (k_wa (k_wa P (s + 3) (e_cpy (P.2 (s + 3)) (P.2 (s + 3)) 1 0 15)) (s + 4) (e_cpy (P.2 (s + 4)) (P.2 (s + 4)) 1 0 15)) 183 s 15) (s := s) (m := 15) (e := e) (dg := dg)
    refine ⟨q1, fun i hi => ?_, fun f a h => ?_, fun a h1 h2 => ?_⟩
    · have hi : i < 16 := hi
      rw [q2, q3]
      have a3 : (k_wr (k_wa (k_wa P (s + 3) (e_cpy (P.2 (s + 3)) (P.2 (s + 3)) 1 0 15)) (s + 4) (e_cpy (P.2 (s + 4)) (P.2 (s + 4)) 1 0 15)) 183 s 15).2 (s + 3) = e_cpy (P.2 (s + 3)) (P.2 (s + 3)) 1 0 15 := by
        show (k_wa (k_wa P (s + 3) _) (s + 4) _).2 (s + 3) = _
        rw [k_an (by omega), k_as]
      have a4 : (k_wr (k_wa (k_wa P (s + 3) (e_cpy (P.2 (s + 3)) (P.2 (s + 3)) 1 0 15)) (s + 4) (e_cpy (P.2 (s + 4)) (P.2 (s + 4)) 1 0 15)) 183 s 15).2 (s + 4) = e_cpy (P.2 (s + 4)) (P.2 (s + 4)) 1 0 15 := by
        show (k_wa (k_wa P (s + 3) _) (s + 4) _).2 (s + 4) = _
        rw [k_as]
      rw [a3, a4, show min 16 15 = 15 from rfl]
      by_cases ci : i = 15
      · rw [ci, up_s, up_s, if_pos rfl, if_pos rfl]; exact ⟨rfl, rfl⟩
      · rw [up_n ci, up_n ci, if_neg ci, if_neg ci]
        unfold e_cpy
        rw [pk_cpy_in (by omega) (by omega), pk_cpy_in (by omega) (by omega), show 1 + (i - 0) = i + (16 - 15) by omega]
        exact ⟨rfl, rfl⟩
    · rw [q4 f a h]
      by_cases c' : f = 183
      · subst c'
        rw [k_ra (h.resolve_left (fun h => h rfl)), k_a1, k_a1]
      · rw [k_rn c', k_a1, k_a1]
    · rw [q5 a h1 h2]
      show (k_wa (k_wa P (s + 3) _) (s + 4) _).2 a = _
      rw [k_an h2, k_an h1]
theorem K_ve.v1 (h : K_ve own n P U S) (ho : o < n) (ev : S.2 97 o = nI v) (h1 : 1 ≤ v) (hv : v ≤ 400) (inj : ∀ o', o' < n → o' ≠ o → k_sp U own o' ≠ k_sp U own o ∧ k_sp U own o' + 3 ≠ k_sp U own o + 4 ∧ k_sp U own o' + 4 ≠ k_sp U own o + 3) : K_ve own n (k_kv P (k_sp U own o) (min v 16) e dg) U (y_v1 e o v dg S) := fun o' ho' v' ev' hv' => by
  obtain ⟨q1, q2, q3, q4⟩ := kv_r (P := P) (s := k_sp U own o) (m := min v 16) (e := e) (dg := dg) (by omega)
  have eV : (y_v1 e o v dg S).2 97 = va_up (S.2 97) o (nI (v + 1)) := by unfold y_v1; dsimp only; rw [up_s]
  have eN : (y_v1 e o v dg S).2 98 = va_up (S.2 98) (401 * o + v) e := by unfold y_v1; dsimp only; rw [up_n (by decide), up_n (by decide), up_s]
  have eD : (y_v1 e o v dg S).2 99 = va_up (S.2 99) (401 * o + v) dg := by unfold y_v1; dsimp only; rw [up_n (by decide), up_s]
  rw [eV] at ev'
  rw [eN, eD]
  by_cases c : o' = o
  · subst c
    rw [up_s, i_eq (by omega) (by omega)] at ev'
    subst ev'
    obtain ⟨g1, g2⟩ := h o' ho v ev (by omega)
    refine ⟨by rw [q1, show min (min v 16 + 1) 16 = min (v + 1) 16 by omega], fun i hi => ?_⟩
    have q := q2 i (by omega)
    rw [q.1, q.2]
    by_cases ci : i = min (min v 16) 15
    · rw [if_pos ci, if_pos ci]
      have : 401 * o' + (v + 1 - min (v + 1) 16) + i = 401 * o' + v := by omega
      rw [this, up_s, up_s]
      exact ⟨rfl, rfl⟩
    · rw [if_neg ci, if_neg ci]
      have h2 := g2 (i + (min v 16 - min (min v 16) 15)) (by omega)
      have e1 : 401 * o' + (v - min v 16) + (i + (min v 16 - min (min v 16) 15)) = 401 * o' + (v + 1 - min (v + 1) 16) + i := by omega
      rw [e1] at h2
      rw [up_n (by omega), up_n (by omega)]
      exact h2
  · obtain ⟨i1, i2, i3⟩ := inj o' ho' c
    rw [up_n c] at ev'
    obtain ⟨g1, g2⟩ := h o' ho' v' ev' hv'
    refine ⟨by rw [q3 _ _ (Or.inr i1)]; exact g1, fun i hi => ?_⟩
    have n1 : 401 * o' + (v' - min v' 16) + i ≠ 401 * o + v := fun z => by
      have : o' = o := by omega
      exact c this
    rw [q4 _ (by omega) i2, q4 _ i3 (by omega), up_n n1, up_n n1]
    exact g2 i hi
end UI
