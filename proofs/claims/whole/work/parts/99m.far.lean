/-! how far each is from one: what the reference reckons -/
section SO
variable {W : Nat → Nat → Bool} {lv : Nat → Nat} {l t : Nat}
/-- a way of so many steps to t -/
def wk (W : Nat → Nat → Bool) (lv : Nat → Nat) (l t : Nat) : Nat → Nat → Prop
  | 0, u => u = t
  | d + 1, u => ∃ i, i < l ∧ W u (lv i) = true ∧ wk W lv l t d (lv i)
def Qf (W : Nat → Nat → Bool) (lv : Nat → Nat) (l t : Nat) (f : Nat → Int32) (k m : Nat) : Prop := ∀ i, i < l → ∃ d, d ≤ 99 ∧ f (lv i) = nI d ∧ (d < 99 → wk W lv l t d (lv i)) ∧ ∀ d', d' ≤ (if i < k then m + 1 else m) → wk W lv l t d' (lv i) → d ≤ d'
theorem f0_ok (inj : ∀ i j, i < l → j < l → lv i = lv j → i = j) : ∀ (m k : Nat) (f : Nat → Int32), k + m = l → (∀ i, i < k → f (lv i) = if lv i = t then 0 else 99) → ∀ i, i < l → y_f0 t lv k m f (lv i) = if lv i = t then 0 else 99
  | 0, k, f, hk, h, i, hi => h i (by omega)
  | m + 1, k, f, hk, h, i, hi => by
    rw [y_f0]
    refine f0_ok inj m (k + 1) _ (by omega) (fun j hj => ?_) i hi
    by_cases c : j = k
    · subst c; rw [up_s]
    · rw [up_n (fun z => c (inj j k (by omega) (by omega) z))]; exact h j (by omega)
theorem fi_ok (inj : ∀ i j, i < l → j < l → lv i = lv j → i = j) {k m0 : Nat} (hk : k < l) {f0 : Nat → Int32} (h0 : Qf W lv l t f0 k m0) : ∀ (m i : Nat) (f : Nat → Int32), i + m = l → (∀ j, j < l → j ≠ k → f (lv j) = f0 (lv j)) →
    (∃ d, d ≤ 99 ∧ f (lv k) = nI d ∧ (d < 99 → wk W lv l t d (lv k)) ∧ (∀ d', d' ≤ m0 → wk W lv l t d' (lv k) → d ≤ d') ∧ (∀ e, e ≤ 99 → f0 (lv k) = nI e → d ≤ e) ∧ ∀ j, j < i → W (lv k) (lv j) = true → ∀ e, e ≤ 99 → f0 (lv j) = nI e → d ≤ e + 1) → Qf W lv l t (y_fi W lv (lv k) i m f) (k + 1) m0
  | 0, i, f, hi, h1, h2 => by
    rw [y_fi]
    obtain ⟨d, g1, g2, g3, g4, g6, g5⟩ := h2
    intro j hj
    by_cases c : j = k
    · subst c
      refine ⟨d, g1, g2, g3, fun d' hd' hw => ?_⟩
      rw [if_pos (by omega)] at hd'
      cases d' with
      | zero => exact g4 0 (by omega) hw
      | succ d' =>
        obtain ⟨x, x1, x2, x3⟩ := hw
        obtain ⟨e, e1, e2, e3, e4⟩ := h0 x x1
        have := g5 x (by omega) x2 e e1 e2
        have := e4 d' (by split <;> omega) x3
        omega
    · obtain ⟨e, e1, e2, e3, e4⟩ := h0 j hj
      refine ⟨e, e1, (h1 j hj c).trans e2, e3, fun d' hd' hw => e4 d' ?_ hw⟩
      by_cases c2 : j < k
      · rw [if_pos c2]; rw [if_pos (by omega)] at hd'; exact hd'
      · rw [if_neg c2]; rw [if_neg (by omega)] at hd'; exact hd'
  | m + 1, i, f, hi, h1, h2 => by
    rw [y_fi]
    obtain ⟨d, g1, g2, g3, g4, g6, g5⟩ := h2
    obtain ⟨e, e1, e2, e3, e4⟩ := h0 i (by omega)
    by_cases cik : i = k
    · subst cik
      have hno : ¬ (f (lv i) + 1 < f (lv i) ∧ W (lv i) (lv i) = true) := fun z => by
        have := z.1
        rw [g2, i_a1, i_lt (by omega) (by omega)] at this
        omega
      rw [if_neg hno]
      refine fi_ok inj hk h0 m (i + 1) f (by omega) h1 ⟨d, g1, g2, g3, g4, g6, fun j hj hw x x1 x2 => ?_⟩
      by_cases c : j < i
      · exact g5 j c hw x x1 x2
      · have ej : j = i := by omega
        subst ej
        have := g6 x x1 x2
        omega
    · have fe : f (lv i) = nI e := (h1 i (by omega) cik).trans e2
      by_cases c : f (lv i) + 1 < f (lv k) ∧ W (lv k) (lv i) = true
      · rw [if_pos c]
        have c1 := c.1
        rw [fe, g2, i_a1, i_lt (by omega) (by omega)] at c1
        refine fi_ok inj hk h0 m (i + 1) _ (by omega) (fun j hj hne => by rw [up_n (fun z => hne (inj j k hj hk z))]; exact h1 j hj hne) ⟨e + 1, by omega, by rw [up_s, fe, i_a1], fun _ => ⟨i, by omega, c.2, e3 (by omega)⟩, fun d' hd' hw => ?_, fun x x1 x2 => ?_, fun j hj hw x x1 x2 => ?_⟩
        · have := g4 d' hd' hw; omega
        · have := g6 x x1 x2; omega
        · by_cases cj : j < i
          · have := g5 j cj hw x x1 x2; omega
          · have ej : j = i := by omega
            subst ej
            rw [e2, i_eq (by omega) (by omega)] at x2
            omega
      · rw [if_neg c]
        refine fi_ok inj hk h0 m (i + 1) f (by omega) h1 ⟨d, g1, g2, g3, g4, g6, fun j hj hw x x1 x2 => ?_⟩
        by_cases cj : j < i
        · exact g5 j cj hw x x1 x2
        · have ej : j = i := by omega
          subst ej
          rw [e2, i_eq (by omega) (by omega)] at x2
          have : ¬ f (lv j) + 1 < f (lv k) := fun z => c ⟨z, hw⟩
          rw [fe, g2, i_a1, i_lt (by omega) (by omega)] at this
          omega
theorem fk_ok (inj : ∀ i j, i < l → j < l → lv i = lv j → i = j) {m0 : Nat} : ∀ (m k : Nat) (f : Nat → Int32), k + m = l → Qf W lv l t f k m0 → Qf W lv l t (y_fk W lv l k m f) 0 (m0 + 1)
  | 0, k, f, hk, h => by
    rw [y_fk]
    intro i hi
    obtain ⟨d, g1, g2, g3, g4⟩ := h i hi
    refine ⟨d, g1, g2, g3, fun d' hd' hw => g4 d' ?_ hw⟩
    rw [if_neg (by omega)] at hd'
    rw [if_pos (by omega)]
    exact hd'
  | m + 1, k, f, hk, h => by
    rw [y_fk]
    refine fk_ok inj m (k + 1) _ (by omega) ?_
    obtain ⟨d, g1, g2, g3, g4⟩ := h k (by omega)
    rw [if_neg (by omega)] at g4
    exact fi_ok inj (by omega) h l 0 f (by omega) (fun _ _ _ => rfl) ⟨d, g1, g2, g3, g4, fun e e1 e2 => by
      rw [g2, i_eq (by omega) (by omega)] at e2
      omega, fun j hj => by omega⟩
theorem ft_ok (inj : ∀ i j, i < l → j < l → lv i = lv j → i = j) : ∀ (m m0 : Nat) (f : Nat → Int32), Qf W lv l t f 0 m0 → Qf W lv l t (y_ft W lv l m f) 0 (m0 + m)
  | 0, m0, f, h => h
  | m + 1, m0, f, h => by
    rw [y_ft, show m0 + (m + 1) = (m0 + 1) + m by omega]
    exact ft_ok inj m (m0 + 1) _ (fk_ok inj l 0 f (by omega) h)
/-- what is reckoned: the shortest way, if it has no more than l steps -/
theorem far_ok (inj : ∀ i j, i < l → j < l → lv i = lv j → i = j) {f : Nat → Int32} {i : Nat} (hi : i < l) : ∃ d, d ≤ 99 ∧ y_far W lv l t f (lv i) = nI d ∧ (d < 99 → wk W lv l t d (lv i)) ∧ ∀ d', d' ≤ l → wk W lv l t d' (lv i) → d ≤ d' := by
  have h0 : Qf W lv l t (y_f0 t lv 0 l f) 0 0 := fun j hj => by
    have e := f0_ok (t := t) inj l 0 f (by omega) (fun _ h => by omega) j hj
    by_cases c : lv j = t
    · rw [if_pos c] at e
      exact ⟨0, by omega, e, fun _ => c, fun _ _ _ => Nat.zero_le _⟩
    · rw [if_neg c] at e
      refine ⟨99, by omega, e, fun z => by omega, fun d' hd' hw => ?_⟩
      rw [if_neg (by omega)] at hd'
      rw [show d' = 0 by omega] at hw
      exact absurd hw c
  have := ft_ok inj l 0 _ h0 i hi
  rw [Nat.zero_add, if_neg (by omega)] at this
  exact this
end SO
