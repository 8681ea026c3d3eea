/-! rings: the class's search as a whole -/
section SQ
variable {V : Nat → Nat → Bool} {M : Nat → Int32} {l s h a : Nat} {L : List Nat} {fr : Nat → Int32} {π : Nat → Nat}
def BI (V : Nat → Nat → Bool) (l s h : Nat) (L : List Nat) (fr : Nat → Int32) (π : Nat → Nat) : Prop :=
  BB V l s h L fr π ∧ h ≤ L.length ∧ ∀ j a, j < h → L[j]? = some a → V a s = false ∧ ∀ b, b < 12 → V a b = true → ∃ i, L[i]? = some b ∧ (i = 0 ∨ π i ≤ j)
theorem bf_ok (hl : l ≤ 12) (hs : s < 12) (hm : ∀ a x, a < l → x < 12 → k_b (M a) x = V a x) (hV : ∀ a x, a < l → x < 12 → V a x = true → x < l) : ∀ (f h : Nat) (L : List Nat) (fr : Nat → Int32) (π : Nat → Nat), h + f = 12 → BI V l s h L fr π →
    (∀ L' fr', k_bf M s h f L fr = (none, L', fr') → ∃ π', BI V l s L'.length L' fr' π') ∧ ∀ a L' fr', k_bf M s h f L fr = (some a, L', fr') → ∃ h' π', BI V l s h' L' fr' π' ∧ L'[h']? = some a ∧ V a s = true
  | 0, h, L, fr, π, hf, hB => by
    rw [k_bf]
    refine ⟨fun L' fr' e => ?_, fun a L' fr' e => by cases e⟩
    cases e
    have := sub_len L (List.range l) hB.1.1 (fun z hz => by rw [List.mem_range]; exact hB.1.2.1 z hz)
    rw [List.length_range] at this
    have := hB.2.1
    exact ⟨π, by rw [show L.length = h by omega]; exact hB⟩
  | f + 1, h, L, fr, π, hf, hB => by
    rw [k_bf]
    cases e : L[h]? with
    | none =>
      dsimp only
      refine ⟨fun L' fr' e2 => ?_, fun a L' fr' e2 => by cases e2⟩
      cases e2
      rw [List.getElem?_eq_none_iff] at e
      have := hB.2.1
      exact ⟨π, by rw [show L.length = h by omega]; exact hB⟩
    | some a =>
      dsimp only
      have al : a < l := hB.1.2.1 a (List.mem_of_getElem? e)
      have ht : h < L.length := (List.getElem?_eq_some_iff.mp e).1
      by_cases c : k_b (M a) s = true
      · rw [if_pos c]
        refine ⟨(fun L' fr' e2 => by cases e2), fun a' L' fr' e2 => ?_⟩
        cases e2
        exact ⟨h, π, hB, e, by rw [← hm _ s al hs]; exact c⟩
      · rw [if_neg c]
        have c' : V a s = false := by rw [← hm a s al hs]; exact Bool.eq_false_iff.mpr c
        obtain ⟨⟨b1, b2, b3, b4, b5, b6, b7⟩, g1, g2⟩ := hB
        obtain ⟨π', r1, ⟨T, r2⟩, r3, r4⟩ := ex_ok (h := h) hl (fun x hx => hm a x al hx) (fun x hx => hV a x al hx) 12 0 L fr π (by omega) ⟨b1, b2, b3, b4, fun i x hi hx => by
          obtain ⟨p1, p2, p3⟩ := b5 i x hi hx
          exact ⟨p1, by omega, p3⟩, b6, b7⟩ e (fun i y hi hy z => by have := (b5 i y hi hy).2.1; omega) (fun y hy => by omega)
        generalize k_ex (M a) a 0 12 L fr = X at *
        refine bf_ok hl hs hm hV f (h + 1) X.1 X.2 π' (by omega) ⟨r1, by rw [r2, List.length_append]; omega, fun j x hj hx => ?_⟩
        have ap : ∀ i y, L[i]? = some y → X.1[i]? = some y := fun i y hy => by rw [r2, List.getElem?_append_left (List.getElem?_eq_some_iff.mp hy).1]; exact hy
        have hx' : L[j]? = some x := by rw [r2, List.getElem?_append_left (by omega)] at hx; exact hx
        by_cases cj : j < h
        · obtain ⟨q1, q2⟩ := g2 j x cj hx'
          refine ⟨q1, fun b hb hv => ?_⟩
          obtain ⟨i, i1, i2⟩ := q2 b hb hv
          exact ⟨i, ap i b i1, by rw [r3 i (List.getElem?_eq_some_iff.mp i1).1]; exact i2⟩
        · have ej : j = h := by omega
          subst ej
          rw [e] at hx'
          cases hx'
          refine ⟨c', fun b hb hv => ?_⟩
          obtain ⟨i, hi, ei⟩ := List.getElem_of_mem (r4 b hb hv)
          have hi2 : X.1[i]? = some b := by rw [List.getElem?_eq_getElem hi, ei]
          refine ⟨i, hi2, ?_⟩
          by_cases c0 : i = 0
          · exact Or.inl c0
          · exact Or.inr (by have := (r1.2.2.2.2.1 i b (by omega) hi2).2.1; omega)
/-- the search begins -/
theorem bi_0 (hs : s < l) : BI V l s 0 [s] (va_up fr s (-1)) (fun _ => 0) := by
  refine ⟨⟨by simp, fun x hx => by rw [List.mem_singleton] at hx; rw [hx]; exact hs, rfl, up_s, fun i x hi hx => ?_, fun i j hi hij hj => Nat.le_refl _, fun i j x y hi hij hx hy _ => ?_⟩, Nat.zero_le _, fun j a hj => by omega⟩
  · have := (List.getElem?_eq_some_iff.mp hx).1
    simp only [List.length_cons, List.length_nil] at this
    omega
  · have := (List.getElem?_eq_some_iff.mp hy).1
    simp only [List.length_cons, List.length_nil] at this
    omega
/-- how deep the i-th of the line lies -/
def Dp (π : Nat → Nat) : Nat → Nat → Nat
  | 0, _ => 0
  | f + 1, i => if i = 0 then 0 else Dp π f (π i) + 1
def D (π : Nat → Nat) (i : Nat) : Nat := Dp π i i
theorem Dp_f (hp : ∀ i, 0 < i → i < L.length → π i < i) : ∀ (i f : Nat), i < L.length → i ≤ f → Dp π f i = D π i := by
  have key : ∀ n i f f', i ≤ n → i < L.length → i ≤ f → i ≤ f' → Dp π f i = Dp π f' i := by
    intro n
    induction n with
    | zero =>
      intro i f f' hi hl h1 h2
      have e : i = 0 := by omega
      subst e
      cases f <;> cases f' <;> simp [Dp]
    | succ n ih =>
      intro i f f' hi hl h1 h2
      by_cases c : i = 0
      · subst c
        cases f <;> cases f' <;> simp [Dp]
      · have := hp i (by omega) hl
        cases f with
        | zero => omega
        | succ f =>
          cases f' with
          | zero => omega
          | succ f' =>
            rw [Dp, Dp, if_neg c, if_neg c, ih (π i) f f' (by omega) (by omega) (by omega) (by omega)]
  intro i f hl hf
  exact key i i f i (Nat.le_refl _) hl hf (Nat.le_refl _)
theorem D_s (hp : ∀ i, 0 < i → i < L.length → π i < i) {i : Nat} (h0 : 0 < i) (hi : i < L.length) : D π i = D π (π i) + 1 := by
  have := hp i h0 hi
  cases i with
  | zero => omega
  | succ i =>
    have e : D π (i + 1) = Dp π i (π (i + 1)) + 1 := by
      unfold D
      rw [Dp, if_neg (by omega)]
    rw [e, Dp_f hp (π (i + 1)) i (by omega) (by omega)]
theorem D_0 : D π 0 = 0 := rfl
theorem D_le (hp : ∀ i, 0 < i → i < L.length → π i < i) : ∀ n i, i ≤ n → i < L.length → D π i ≤ i := by
  intro n
  induction n with
  | zero => intro i hi _; rw [show i = 0 by omega, D_0]; exact Nat.le_refl _
  | succ n ih =>
    intro i hi hl
    by_cases c : i = 0
    · rw [c, D_0]; exact Nat.le_refl _
    · have := hp i (by omega) hl
      rw [D_s hp (by omega) hl]
      have := ih (π i) (by omega) (by omega)
      omega
theorem D_mono (hp : ∀ i, 0 < i → i < L.length → π i < i) (hm : ∀ i j, 0 < i → i ≤ j → j < L.length → π i ≤ π j) : ∀ n i j, j ≤ n → i ≤ j → j < L.length → D π i ≤ D π j := by
  intro n
  induction n with
  | zero => intro i j hj hij _; rw [show i = j by omega]; exact Nat.le_refl _
  | succ n ih =>
    intro i j hj hij hl
    by_cases c : i = 0
    · rw [c, D_0]; exact Nat.zero_le _
    · have h1 := hp j (by omega) hl
      rw [D_s hp (by omega) (show i < L.length by omega), D_s hp (by omega) hl]
      have := ih (π i) (π j) (by omega) (hm i j (by omega) hij hl) (by omega)
      omega
end SQ
