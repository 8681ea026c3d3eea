/-! rings: the ring written down, both ways -/
section SY
variable {P P' : k_P} {S : m_S} {own t nl l R : Nat} {pos lv p x : Nat → Nat}
theorem rgA_ok : ∀ (m k : Nat) (f : Nat → Int32) (i : Nat), y_rgA p k m f i = if k ≤ i ∧ i < k + m then nI (p i) else f i
  | 0, k, f, i => by
    have n1 : ¬ (k ≤ i ∧ i < k + 0) := by omega
    rw [y_rgA, if_neg n1]
  | m + 1, k, f, i => by
    rw [y_rgA, rgA_ok m (k + 1)]
    by_cases c : i = k
    · subst c
      have n1 : ¬ (i + 1 ≤ i ∧ i < i + 1 + m) := by omega
      have n2 : i ≤ i ∧ i < i + (m + 1) := by omega
      rw [if_neg n1, if_pos n2, up_s]
    · rw [up_n c]
      by_cases c2 : k + 1 ≤ i ∧ i < k + 1 + m
      · have n2 : k ≤ i ∧ i < k + (m + 1) := by omega
        rw [if_pos c2, if_pos n2]
      · have n2 : ¬ (k ≤ i ∧ i < k + (m + 1)) := by omega
        rw [if_neg c2, if_neg n2]
theorem mem_ok {w n m : Nat → Int32} {a : Int32} (hp : k_pth w 12 a = ((List.range (R + 1)).map x).reverse) {i : Nat} (hi : i ≤ R) : k_mem (k_pth w 12 a) n m i = n (x i) := by
  unfold k_mem
  rw [hp, List.reverse_reverse, List.getElem?_map, List.getElem?_range (by omega)]
  rfl
theorem len_ok {w : Nat → Int32} {a : Int32} (hp : k_pth w 12 a = ((List.range (R + 1)).map x).reverse) : (k_pth w 12 a).length = R + 1 := by
  rw [hp, List.length_reverse, List.length_map, List.length_range]
/-- the rest of the class, when a ring is written down -/
theorem mi_ring (hK : K_mi own P S) (hR : R < 12) (fP : ∀ f a, f ∉ fp_rP → P'.1 f a = P.1 f a) (f4 : P'.2 (own + 4) = P.2 (own + 4)) (es : P'.1 125 (own + 19) = nI (R + 1)) (ev : P'.1 126 (own + 19) = nI (y_vic p S 1 R t)) (er : P'.1 201 (own + 25) = P.1 201 (own + 25) + 1) (em : ∀ i, i ≤ R → P'.2 (own + 24) i = nI (p i)) : K_mi own P' (y_ringed t nl l pos lv p R S) := by
  obtain ⟨g1, g2, g3, g4, g5, g6, g7, g8, g9, g10, g11, g12, g13, g14, g15, g16, g17⟩ := hK
  have eF : ∀ f, f ∉ fp_rF → (y_ringed t nl l pos lv p R S).1 f = S.1 f := fun f hf => by
    unfold y_ringed
    dsimp only
    rw [up_n (nmem hf (by decide)), up_n (nmem hf (by decide)), up_n (nmem hf (by decide))]
  have eA : ∀ f, f ∉ fp_rA → (y_ringed t nl l pos lv p R S).2 f = S.2 f := fun f hf => by
    unfold y_ringed
    dsimp only
    rw [up_n (nmem hf (by decide)), up_n (nmem hf (by decide))]
  have m1 : (y_ringed t nl l pos lv p R S).1 93 = nI (R + 1) := by
    unfold y_ringed
    dsimp only
    rw [up_n (by decide), up_n (by decide), up_s]
  have m2 : (y_ringed t nl l pos lv p R S).1 94 = nI (y_vic p S 1 R t) := by
    unfold y_ringed
    dsimp only
    rw [up_n (by decide), up_s]
  have m3 : (y_ringed t nl l pos lv p R S).1 92 = S.1 92 + 1 := by
    unfold y_ringed
    dsimp only
    rw [up_s]
  have m4 : (y_ringed t nl l pos lv p R S).2 95 = y_rgA p 0 (R + 1) (S.2 95) := by
    unfold y_ringed
    dsimp only
    rw [up_s]
  have n0 : ¬ nI (R + 1) = (0 : Int32) := fun z => by
    rw [show (0 : Int32) = nI 0 from rfl, i_eq (by omega) (by omega)] at z
    omega
  generalize y_ringed t nl l pos lv p R S = S' at *
  refine ⟨by rw [fP _ _ (by decide), eF _ (by decide)]; exact g1, by rw [fP _ _ (by decide), eF _ (by decide)]; exact g2, by rw [fP _ _ (by decide), eF _ (by decide)]; exact g3, by rw [fP _ _ (by decide), eF _ (by decide)]; exact g4, by rw [fP _ _ (by decide), eF _ (by decide)]; exact g5,
    by rw [fP _ _ (by decide), eF _ (by decide)]; exact g6, by rw [er, m3, g7], by rw [fP _ _ (by decide), eF _ (by decide)]; exact g8, by rw [fP _ _ (by decide), eF _ (by decide)]; exact g9, by rw [fP _ _ (by decide), eF _ (by decide)]; exact g10, by rw [fP _ _ (by decide), eF _ (by decide)]; exact g11, by rw [fP _ _ (by decide), eF _ (by decide)]; exact g12,
    es.trans m1.symm, by rw [m1, if_neg n0, m2]; exact ev, fun i hi h12 => ?_, by rw [fP _ _ (by decide), eF _ (by decide)]; exact g16, by rw [f4, eF 30 (by decide), eA 31 (by decide)]; exact g17⟩
  rw [m1, i_lt (by omega) (by omega)] at hi
  rw [em i (by omega), m4, rgA_ok, if_pos (by omega)]
end SY
