/-! what is where: types of all references -/
def k_W (N : Nat) (Z : k_Z) (U : k_U) : Prop :=
  (∀ a, Z.1 a = 13 → Z.1 (a + 1) = 9 ∧ Z.1 (a + 5) = 9 ∧ Z.1 (a + 9) = 9 ∧ Z.1 (a + 13) = 21 ∧ Z.1 (a + 14) = 30 ∧ Z.1 (a + 15) = 30 ∧ Z.1 (a + 16) = 30 ∧ Z.1 (a + 17) = 5 ∧ Z.1 (a + 19) = 7 ∧ Z.1 (a + 25) = 11) ∧
  (∀ a, Z.1 a = 9 → Z.1 (a + 1) = 20 ∧ Z.1 (a + 2) = 6) ∧
  (∀ a, Z.1 a = 6 → Z.1 (a + 1) = 116) ∧
  (∀ a, Z.1 a = 12 → Z.1 (a + 1) = 108) ∧
  (∀ a, Z.1 a = 10 → Z.1 (a + 1) = 31 ∧ Z.1 (a + 2) = 31 ∧ Z.1 (a + 3) = 116 ∧ Z.1 (a + 4) = 116) ∧
  (∀ a, Z.1 a = 3 → Z.1 (a + 1) = 2 ∧ Z.1 (a + 2) = 105) ∧
  (∀ a, Z.1 a = 7 → Z.1 (a + 1) = 112 ∧ Z.1 (a + 2) = 112 ∧ Z.1 (a + 3) = 112 ∧ Z.1 (a + 4) = 112 ∧ Z.1 (a + 5) = 112) ∧
  (∀ a, Z.1 a = 5 → Z.1 (a + 1) = 32) ∧
  (∀ a, Z.1 a = 4 → Z.1 (Z.2.2 a) = 3) ∧
  (∀ a i x, Z.1 a = 20 → U.2.2 a i = some x → Z.1 x = 12) ∧
  (∀ a i x, Z.1 a = 21 → U.2.2 a i = some x → Z.1 x = 10) ∧
  (∀ a x, Z.1 a = 3 → U.1 a = some x → Z.1 x = 4) ∧
  (∀ a x, Z.1 a = 30 → x ∈ U.2.1 a → Z.1 x = 3) ∧
  (∀ a x, Z.1 a = 31 → x ∈ U.2.1 a → Z.1 x = 4) ∧
  (∀ a x, Z.1 a = 32 → x ∈ U.2.1 a → Z.1 x = 8) ∧
  (∀ a, k_tL Z a → k_in N a) ∧
  (∀ a, Z.2.1 a ≤ 2300 ∧ (Z.2.1 a = 0 ∨ 10 ≤ Z.2.1 a))
section KG
variable {N : Nat} {Z : k_Z} {U : k_U}
theorem k_W.el30 (w : k_W N Z U) {a : Nat} (t : Z.1 a = 30) : k_el Z U a := fun y hy => ⟨2, by decide, by decide, w.2.2.2.2.2.2.2.2.2.2.2.2.1 a y t hy⟩
theorem k_W.el31 (w : k_W N Z U) {a : Nat} (t : Z.1 a = 31) : k_el Z U a := fun y hy => ⟨3, by decide, by decide, w.2.2.2.2.2.2.2.2.2.2.2.2.2.1 a y t hy⟩
theorem k_W.el32 (w : k_W N Z U) {a : Nat} (t : Z.1 a = 32) : k_el Z U a := fun y hy => ⟨7, by decide, by decide, w.2.2.2.2.2.2.2.2.2.2.2.2.2.2.1 a y t hy⟩
theorem k_W.hse (w : k_W N Z U) {a : Nat} (t : Z.1 a = 13) : Z.1 (a + 1) = 9 ∧ Z.1 (a + 5) = 9 ∧ Z.1 (a + 9) = 9 ∧ Z.1 (a + 13) = 21 ∧ Z.1 (a + 14) = 30 ∧ Z.1 (a + 15) = 30 ∧ Z.1 (a + 16) = 30 ∧ Z.1 (a + 17) = 5 ∧ Z.1 (a + 19) = 7 ∧ Z.1 (a + 25) = 11 := w.1 a t
theorem k_W.shf (w : k_W N Z U) {a : Nat} (t : Z.1 a = 9) : Z.1 (a + 1) = 20 ∧ Z.1 (a + 2) = 6 ∧ Z.1 (a + 3) = 116 := ⟨(w.2.1 a t).1, (w.2.1 a t).2, w.2.2.1 _ (w.2.1 a t).2⟩
theorem k_W.rep (w : k_W N Z U) {a : Nat} (t : Z.1 a = 6) : Z.1 (a + 1) = 116 := w.2.2.1 a t
theorem k_W.thg (w : k_W N Z U) {a : Nat} (t : Z.1 a = 12) : Z.1 (a + 1) = 108 := w.2.2.2.1 a t
theorem k_W.spt (w : k_W N Z U) {a : Nat} (t : Z.1 a = 10) : Z.1 (a + 1) = 31 ∧ Z.1 (a + 2) = 31 ∧ Z.1 (a + 3) = 116 ∧ Z.1 (a + 4) = 116 := w.2.2.2.2.1 a t
theorem k_W.dea (w : k_W N Z U) {a : Nat} (t : Z.1 a = 3) : Z.1 (a + 1) = 2 ∧ Z.1 (a + 2) = 105 := w.2.2.2.2.2.1 a t
theorem k_W.rng (w : k_W N Z U) {a : Nat} (t : Z.1 a = 7) : Z.1 (a + 1) = 112 ∧ Z.1 (a + 2) = 112 ∧ Z.1 (a + 3) = 112 ∧ Z.1 (a + 4) = 112 ∧ Z.1 (a + 5) = 112 := w.2.2.2.2.2.2.1 a t
theorem k_W.log (w : k_W N Z U) {a : Nat} (t : Z.1 a = 5) : Z.1 (a + 1) = 32 := w.2.2.2.2.2.2.2.1 a t
theorem k_W.lck (w : k_W N Z U) {a : Nat} (t : Z.1 a = 4) : Z.1 (Z.2.2 a) = 3 := w.2.2.2.2.2.2.2.2.1 a t
theorem k_W.xth (w : k_W N Z U) {a i x : Nat} (t : Z.1 a = 20) (e : U.2.2 a i = some x) : Z.1 x = 12 := w.2.2.2.2.2.2.2.2.2.1 a i x t e
theorem k_W.xsp (w : k_W N Z U) {a i x : Nat} (t : Z.1 a = 21) (e : U.2.2 a i = some x) : Z.1 x = 10 := w.2.2.2.2.2.2.2.2.2.2.1 a i x t e
theorem k_W.wtg (w : k_W N Z U) {a x : Nat} (t : Z.1 a = 3) (e : U.1 a = some x) : Z.1 x = 4 := w.2.2.2.2.2.2.2.2.2.2.2.1 a x t e
theorem k_W.lde (w : k_W N Z U) {a x : Nat} (t : Z.1 a = 30) (e : x ∈ U.2.1 a) : Z.1 x = 3 := w.2.2.2.2.2.2.2.2.2.2.2.2.1 a x t e
theorem k_W.llo (w : k_W N Z U) {a x : Nat} (t : Z.1 a = 31) (e : x ∈ U.2.1 a) : Z.1 x = 4 := w.2.2.2.2.2.2.2.2.2.2.2.2.2.1 a x t e
theorem k_W.lro (w : k_W N Z U) {a x : Nat} (t : Z.1 a = 32) (e : x ∈ U.2.1 a) : Z.1 x = 8 := w.2.2.2.2.2.2.2.2.2.2.2.2.2.2.1 a x t e
theorem k_W.lN (w : k_W N Z U) {a : Nat} (t : k_tL Z a) : k_in N a := w.2.2.2.2.2.2.2.2.2.2.2.2.2.2.2.1 a t
theorem k_W.cap (w : k_W N Z U) (a : Nat) : Z.2.1 a ≤ 2300 ∧ (Z.2.1 a = 0 ∨ 10 ≤ Z.2.1 a) := w.2.2.2.2.2.2.2.2.2.2.2.2.2.2.2.2 a
/-- other lists -/
theorem k_W.wl (w : k_W N Z U) {a : Nat} {l : List Nat} (h1 : Z.1 a = 30 → ∀ x ∈ l, Z.1 x = 3) (h2 : Z.1 a = 31 → ∀ x ∈ l, Z.1 x = 4) (h3 : Z.1 a = 32 → ∀ x ∈ l, Z.1 x = 8) : k_W N Z (k_wl U a l) := by
  obtain ⟨a1, a2, a3, a4, a5, a6, a7, a8, a9, b1, b2, b3, c1, c2, c3, d, e⟩ := w
  refine ⟨a1, a2, a3, a4, a5, a6, a7, a8, a9, b1, b2, b3, fun b x t hx => ?_, fun b x t hx => ?_, fun b x t hx => ?_, d, e⟩
  all_goals
    by_cases e : b = a
    · subst e
      rw [k_ls] at hx
      first | exact h1 t x hx | exact h2 t x hx | exact h3 t x hx
    · rw [k_ln e] at hx
      first | exact c1 b x t hx | exact c2 b x t hx | exact c3 b x t hx
theorem k_W.wlS (w : k_W N Z U) {a : Nat} {l : List Nat} (hl : ∀ x ∈ l, x ∈ U.2.1 a) : k_W N Z (k_wl U a l) := w.wl (fun t x hx => w.lde t (hl x hx)) (fun t x hx => w.llo t (hl x hx)) (fun t x hx => w.lro t (hl x hx))
theorem k_W.ww (w : k_W N Z U) {a : Nat} {x : Option Nat} (hx : ∀ y, x = some y → Z.1 y = 4) : k_W N Z (k_ww U a x) := by
  obtain ⟨a1, a2, a3, a4, a5, a6, a7, a8, a9, b1, b2, b3, r⟩ := w
  refine ⟨a1, a2, a3, a4, a5, a6, a7, a8, a9, b1, b2, fun b y t hy => ?_, r⟩
  by_cases e : b = a
  · subst e
    rw [k_ws] at hy
    exact hx y hy
  · rw [k_wn e] at hy
    exact b3 b y t hy
theorem k_W.wx (w : k_W N Z U) {a i v : Nat} (h1 : Z.1 a = 20 → Z.1 v = 12) (h2 : Z.1 a = 21 → Z.1 v = 10) : k_W N Z (k_wx U a (va_up (U.2.2 a) i (some v))) := by
  obtain ⟨a1, a2, a3, a4, a5, a6, a7, a8, a9, b1, b2, r⟩ := w
  refine ⟨a1, a2, a3, a4, a5, a6, a7, a8, a9, fun b j y t hy => ?_, fun b j y t hy => ?_, r⟩
  all_goals
    by_cases e : b = a
    · subst e
      rw [k_xs] at hy
      by_cases e2 : j = i
      · subst e2
        rw [up_s] at hy
        cases hy
        first | exact h1 t | exact h2 t
      · rw [up_n e2] at hy
        first | exact b1 b j y t hy | exact b2 b j y t hy
    · rw [k_xn e] at hy
      first | exact b1 b j y t hy | exact b2 b j y t hy
/-- room changes nothing of it -/
theorem k_W.zc (w : k_W N Z U) {x y : Nat} {r r' : Nat × Nat} {C' : Nat → Nat} (h : k_ro N x y Z.2.1 r C' r') : k_W N (k_zc Z C') U := by
  obtain ⟨a1, a2, a3, a4, a5, a6, a7, a8, a9, b1, b2, b3, c1, c2, c3, d, e⟩ := w
  refine ⟨a1, a2, a3, a4, a5, a6, a7, a8, a9, b1, b2, b3, c1, c2, c3, d, fun a => ?_⟩
  rcases h.2.2.2.2 a with z | z
  · show C' a ≤ 2300 ∧ (C' a = 0 ∨ 10 ≤ C' a)
    rw [z]
    exact e a
  · exact ⟨z.2.1, Or.inr z.1⟩
end KG
theorem k_tL30 {Z : k_Z} {a : Nat} (t : Z.1 a = 30) : k_tL Z a := ⟨by omega, by omega⟩
theorem k_tL31 {Z : k_Z} {a : Nat} (t : Z.1 a = 31) : k_tL Z a := ⟨by omega, by omega⟩
theorem k_tL32 {Z : k_Z} {a : Nat} (t : Z.1 a = 32) : k_tL Z a := ⟨by omega, by omega⟩
