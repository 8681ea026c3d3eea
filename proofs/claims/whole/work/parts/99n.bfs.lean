/-! rings: the nearest; the class's search, level by level -/
section SP
variable {W : Nat → Nat → Bool} {lv : Nat → Nat} {l t u s h a : Nat} {f : Nat → Int32} {φ : Nat → Nat}
def NB (W : Nat → Nat → Bool) (lv : Nat → Nat) (u : Nat) (φ : Nat → Nat) (k : Nat) (x : Option Nat) : Prop :=
  (x = none → ∀ j, j < k → W u (lv j) = true → ¬ φ j < 99) ∧ ∀ v, x = some v → ∃ i, i < k ∧ v = lv i ∧ W u (lv i) = true ∧ φ i < 99 ∧ (∀ j, j < k → W u (lv j) = true → φ i ≤ φ j) ∧ ∀ j, j < i → W u (lv j) = true → φ i < φ j
theorem near_ok (hφ : ∀ i, i < l → φ i ≤ 99 ∧ f (lv i) = nI (φ i)) : ∀ (m k : Nat) (x : Option Nat), k + m = l → NB W lv u φ k x → NB W lv u φ l (y_near W lv f u k m x)
  | 0, k, x, hk, h => by
    rw [y_near, ← show k = l by omega]
    exact h
  | m + 1, k, x, hk, h => by
    rw [y_near]
    obtain ⟨p1, p2⟩ := hφ k (by omega)
    refine near_ok hφ m (k + 1) _ (by omega) ?_
    have c9 : (f (lv k) < 99) = (φ k < 99) := by rw [p2, show (99 : Int32) = nI 99 from rfl, i_lt (by omega) (by omega)]
    obtain ⟨h1, h2⟩ := h
    by_cases c : W u (lv k) = true ∧ f (lv k) < 99 ∧ y_nrB f (lv k) x = true
    · rw [if_pos c]
      obtain ⟨c1, c2, c3⟩ := c
      rw [c9] at c2
      have key : ∀ j, j < k → W u (lv j) = true → φ k < φ j := fun j hj hw => by
        cases hx : x with
        | none => have := h1 hx j hj hw; omega
        | some v =>
          obtain ⟨i, i1, i2, i3, i4, i5, i6⟩ := h2 v hx
          rw [hx, i2] at c3
          have c3 : decide (f (lv k) < f (lv i)) = true := c3
          rw [decide_eq_true_eq, p2, (hφ i (by omega)).2, i_lt (by omega) (by have := (hφ i (by omega)).1; omega)] at c3
          have := i5 j hj hw
          omega
      refine ⟨(fun z => by cases z), fun v hv => ?_⟩
      cases hv
      refine ⟨k, by omega, rfl, c1, c2, fun j hj hw => ?_, key⟩
      by_cases cj : j < k
      · exact Nat.le_of_lt (key j cj hw)
      · rw [show j = k by omega]; exact Nat.le_refl _
    · rw [if_neg c]
      refine ⟨fun z j hj hw => ?_, fun v hv => ?_⟩
      · by_cases cj : j < k
        · exact h1 z j cj hw
        · have ej : j = k := by omega
          subst ej
          intro h9
          exact c ⟨hw, by rw [c9]; exact h9, by rw [z]; rfl⟩
      · obtain ⟨i, i1, i2, i3, i4, i5, i6⟩ := h2 v hv
        refine ⟨i, by omega, i2, i3, i4, fun j hj hw => ?_, i6⟩
        by_cases cj : j < k
        · exact i5 j cj hw
        · have ej : j = k := by omega
          subst ej
          by_cases h9 : φ j < 99
          · have c3 : ¬ y_nrB f (lv j) x = true := fun z => c ⟨hw, by rw [c9]; exact h9, z⟩
            rw [hv, i2] at c3
            have c3 : ¬ decide (f (lv j) < f (lv i)) = true := c3
            rw [decide_eq_true_eq, p2, (hφ i (by omega)).2, i_lt (by omega) (by have := (hφ i (by omega)).1; omega)] at c3
            omega
          · omega
/-- the class's search: the line, from where, and the place in the line of that -/
def BB (V : Nat → Nat → Bool) (l s h : Nat) (L : List Nat) (fr : Nat → Int32) (π : Nat → Nat) : Prop :=
  L.Nodup ∧ (∀ x ∈ L, x < l) ∧ L[0]? = some s ∧ fr s = -1 ∧ (∀ i x, 0 < i → L[i]? = some x → π i < i ∧ π i < h ∧ ∃ a, L[π i]? = some a ∧ V a x = true ∧ fr x = nI a) ∧
  (∀ i j, 0 < i → i ≤ j → j < L.length → π i ≤ π j) ∧ ∀ i j x y, 0 < i → i < j → L[i]? = some x → L[j]? = some y → π i = π j → x < y
theorem ex_ok {V : Nat → Nat → Bool} {m : Int32} (hl : l ≤ 12) (hm : ∀ x, x < 12 → k_b m x = V a x) (hV : ∀ x, x < 12 → V a x = true → x < l) : ∀ (k x : Nat) (L : List Nat) (fr : Nat → Int32) (π : Nat → Nat), x + k = 12 → BB V l s (h + 1) L fr π → L[h]? = some a → (∀ i y, 0 < i → L[i]? = some y → π i = h → y < x) → (∀ y, y < x → V a y = true → y ∈ L) →
    ∃ π', BB V l s (h + 1) (k_ex m a x k L fr).1 (k_ex m a x k L fr).2 π' ∧ (∃ T, (k_ex m a x k L fr).1 = L ++ T) ∧ (∀ i, i < L.length → π' i = π i) ∧ ∀ y, y < 12 → V a y = true → y ∈ (k_ex m a x k L fr).1
  | 0, x, L, fr, π, hx, hB, hh, h1, h2 => ⟨π, hB, ⟨[], (List.append_nil _).symm⟩, fun _ _ => rfl, fun y hy hv => h2 y (by omega) hv⟩
  | k + 1, x, L, fr, π, hx, hB, hh, h1, h2 => by
    rw [k_ex]
    by_cases c12 : L.length < 12
    · rw [if_pos c12]
      by_cases c : k_b m x = true ∧ x ∉ L
      · rw [if_pos c]
        obtain ⟨b1, b2, b3, b4, b5, b6, b7⟩ := hB
        have hvx : V a x = true := by rw [← hm x (by omega)]; exact c.1
        have xl := hV x (by omega) hvx
        have hhL : h < L.length := (List.getElem?_eq_some_iff.mp hh).1
        have ge : ∀ i y, (L ++ [x])[i]? = some y → (i < L.length ∧ L[i]? = some y) ∨ (i = L.length ∧ y = x) := fun i y hy => by
          by_cases ci : i < L.length
          · rw [List.getElem?_append_left ci] at hy; exact Or.inl ⟨ci, hy⟩
          · rw [List.getElem?_append_right (by omega)] at hy
            have : i - L.length = 0 := by
              have := (List.getElem?_eq_some_iff.mp hy).1
              simp only [List.length_cons, List.length_nil] at this
              omega
            rw [this] at hy
            cases hy
            exact Or.inr ⟨by omega, rfl⟩
        have lt : ∀ i y, L[i]? = some y → i < L.length := fun i y hy => (List.getElem?_eq_some_iff.mp hy).1
        have ap : ∀ i y, L[i]? = some y → (L ++ [x])[i]? = some y := fun i y hy => by rw [List.getElem?_append_left (lt i y hy)]; exact hy
        have ne : ∀ y, y ∈ L → y ≠ x := fun y hy z => c.2 (z ▸ hy)
        have sL : s ∈ L := List.mem_of_getElem? b3
        have hB' : BB V l s (h + 1) (L ++ [x]) (va_up fr x (nI a)) (va_up π L.length h) := by
          refine ⟨?_, fun y hy => ?_, ap 0 s b3, by rw [up_n (ne s sL)]; exact b4, fun i y hi hy => ?_, fun i j hi hij hj => ?_, fun i j y z hi hij hy hz e => ?_⟩
          · rw [List.nodup_append]
            exact ⟨b1, by simp, fun y hy z hz => by rw [List.mem_singleton] at hz; rw [hz]; exact ne y hy⟩
          · rcases List.mem_append.mp hy with z | z
            · exact b2 y z
            · rw [List.mem_singleton] at z; rw [z]; exact xl
          · rcases ge i y hy with ⟨ci, hy⟩ | ⟨ci, ey⟩
            · obtain ⟨g1, g2, a', g3, g4, g5⟩ := b5 i y hi hy
              rw [up_n (by omega)]
              exact ⟨g1, g2, a', ap _ _ g3, g4, by rw [up_n (ne y (List.mem_of_getElem? hy))]; exact g5⟩
            · rw [ci, ey, up_s]
              exact ⟨hhL, by omega, a, ap _ _ hh, hvx, by rw [up_s]⟩
          · rw [List.length_append, List.length_singleton] at hj
            by_cases cj : j = L.length
            · rw [cj, up_s]
              by_cases ci : i = L.length
              · rw [ci, up_s]; exact Nat.le_refl _
              · rw [up_n ci]
                have := (b5 i _ hi (List.getElem?_eq_getElem (show i < L.length by omega))).2.1
                omega
            · rw [up_n cj, up_n (by omega)]
              exact b6 i j hi hij (by omega)
          · rcases ge j z hz with ⟨cj, hz⟩ | ⟨cj, ez⟩
            · rcases ge i y hy with ⟨ci, hy⟩ | ⟨ci, ey⟩
              · rw [up_n (by omega), up_n (by omega)] at e
                exact b7 i j y z hi hij hy hz e
              · omega
            · rcases ge i y hy with ⟨ci, hy⟩ | ⟨ci, ey⟩
              · rw [up_n (by omega), cj, up_s] at e
                rw [ez]
                exact h1 i y hi hy e
              · omega
        obtain ⟨π', r1, ⟨T, r2⟩, r3, r4⟩ := ex_ok hl hm hV k (x + 1) (L ++ [x]) (va_up fr x (nI a)) (va_up π L.length h) (by omega) hB' (ap _ _ hh) (fun i y hi hy e => by
          rcases ge i y hy with ⟨ci, hy⟩ | ⟨ci, ey⟩
          · rw [up_n (by omega)] at e
            have := h1 i y hi hy e; omega
          · omega) (fun y hy hv => by
          by_cases cy : y = x
          · rw [cy]; exact List.mem_append.mpr (Or.inr (List.mem_singleton.mpr rfl))
          · exact List.mem_append.mpr (Or.inl (h2 y (by omega) hv)))
        refine ⟨π', r1, ⟨[x] ++ T, by rw [r2, List.append_assoc]⟩, fun i hi => ?_, r4⟩
        rw [r3 i (by rw [List.length_append]; omega), up_n (by omega)]
      · rw [if_neg c]
        exact ex_ok hl hm hV k (x + 1) L fr π (by omega) hB hh (fun i y hi hy e => by have := h1 i y hi hy e; omega) (fun y hy hv => by
          by_cases cy : y = x
          · subst cy
            by_cases cm : y ∈ L
            · exact cm
            · exact absurd ⟨by rw [hm y (by omega)]; exact hv, cm⟩ c
          · exact h2 y (by omega) hv)
    · rw [if_neg c12]
      refine ⟨π, hB, ⟨[], (List.append_nil _).symm⟩, fun _ _ => rfl, fun y hy hv => ?_⟩
      -- all seats are in the line
      by_cases cm : y ∈ L
      · exact cm
      · have := sub_len (y :: L) (List.range l) (List.nodup_cons.mpr ⟨cm, hB.1⟩) (fun z hz => by
          rw [List.mem_range]
          rcases List.mem_cons.mp hz with e | e
          · rw [e]; exact hV y hy hv
          · exact hB.2.1 z e)
        rw [List.length_range, List.length_cons] at this
        omega
end SP
