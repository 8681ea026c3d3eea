/-! rings: the same victim -/
section SU
variable {P P1 : k_P} {U : k_U} {S : m_S} {own b l nr t u : Nat} {ch : Nat → List Nat} {p : Nat → Nat}
theorem ahd_bet (hb : b ≤ 400) (hD : K_de own b l nr ch P U S) (er : P.1 250 own = S.1 0) (eP : ∀ f a, f ∈ [46, 41, 42, 40, 250] → P1.1 f a = P.1 f a) (h1 : 1 ≤ t) (h2 : t ≤ b) (h3 : 1 ≤ u) (h4 : u ≤ b) : k_ahd P1 (dl U own t) (dl U own u) (P1.1 250 own) = y_bet t u S := by
  obtain ⟨e1, e2, e3, _⟩ := hD
  have key : ∀ w, 1 ≤ w → w ≤ b → k_key P1 (dl U own w) (P1.1 250 own) = y_key (S.1 0) S.2 w := fun w w1 w2 => by
    obtain ⟨q1, q2, q3, q4, q5, q6, q7, _⟩ := e3 w w1 w2
    unfold k_key y_key
    rw [eP _ own (by decide), er, eP _ _ (by decide), eP _ _ (by decide), eP _ _ (by decide), q2, q3, q7]
  unfold k_ahd y_bet
  rw [key t h1 h2, key u h3 h4, eP _ _ (by decide), eP _ _ (by decide), (e3 t h1 h2).1, (e3 u h3 h4).1]
  congr 2
  rw [decide_eq_decide, i_lt (by omega) (by omega)]
theorem vic_ok (hb : b ≤ 400) (hD : K_de own b l nr ch P U S) (er : P.1 250 own = S.1 0) (eP : ∀ f a, f ∈ [46, 41, 42, 40, 250] → P1.1 f a = P.1 f a) {R : Nat} (hp : ∀ j, j ≤ R → 1 ≤ p j ∧ p j ≤ b) (hm : ∀ j, j ≤ R → P1.2 (own + 24) j = nI (p j)) :
    ∀ (m k v : Nat), k + m = R + 1 → 1 ≤ v → v ≤ b → k_vc P1 U own k m (some (dl U own v)) = some (dl U own (y_vic p S k m v)) ∧ 1 ≤ y_vic p S k m v ∧ y_vic p S k m v ≤ b
  | 0, k, v, _, h1, h2 => ⟨rfl, h1, h2⟩
  | m + 1, k, v, hk, h1, h2 => by
    obtain ⟨p1, p2⟩ := hp k (by omega)
    have hd : k_dO U own (nI (p k)) = some (dl U own (p k)) := dl_k (by rw [hD.1]; omega) hD.1 p1 p2
    rw [k_vc, y_vic, hm k (by omega), hd]
    dsimp only
    rw [ahd_bet hb hD er eP p1 p2 h1 h2]
    by_cases c : y_bet (p k) v S = true
    · rw [if_pos c, if_pos c]
      exact vic_ok hb hD er eP hp hm m (k + 1) (p k) (by omega) p1 p2
    · rw [if_neg c, if_neg c]
      exact vic_ok hb hD er eP hp hm m (k + 1) v (by omega) h1 h2
/-- the whole choice -/
theorem vic_all (hb : b ≤ 400) (hD : K_de own b l nr ch P U S) (er : P.1 250 own = S.1 0) (eP : ∀ f a, f ∈ [46, 41, 42, 40, 250] → P1.1 f a = P.1 f a) {R : Nat} (hp : ∀ j, j ≤ R → 1 ≤ p j ∧ p j ≤ b) (hm : ∀ j, j ≤ R → P1.2 (own + 24) j = nI (p j)) (h0 : p 0 = t) : k_vc P1 U own 0 (R + 1) none = some (dl U own (y_vic p S 1 R t)) ∧ 1 ≤ y_vic p S 1 R t ∧ y_vic p S 1 R t ≤ b := by
  obtain ⟨p1, p2⟩ := hp 0 (by omega)
  have hd : k_dO U own (nI (p 0)) = some (dl U own (p 0)) := dl_k (by rw [hD.1]; omega) hD.1 p1 p2
  rw [k_vc, hm 0 (by omega), hd]
  dsimp only
  have := vic_ok hb hD er eP hp hm R 1 (p 0) (by omega) p1 p2
  rw [h0] at this ⊢
  exact this
end SU
