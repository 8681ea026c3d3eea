/-! ArrayList's members (to be proved apart: e_AK), laid over the class's heap; what new objects do -/
def e_gr (h : e_Hp) (a : Nat) (ys : List Nat) (n cap : Nat) : e_Hp :=
  if n < cap then e_wr h a (e_L ys cap) else if cap = 0 then ((e_wr h a (e_L ys 10)).1, h.2.1 + 1, h.2.2 + 10)
  else ((e_wr h a (e_L ys (cap + cap / 2))).1, h.2.1 + 1, h.2.2 + (cap + cap / 2))
def e_AK (g : e_G) : Prop :=
  (∀ (a i x : Nat) (xs : List Nat) (cap : Nat) (h : e_Hp) (Ψ : e_Q), h.1 a = some (e_L xs cap) → xs[i]? = some x → cap ≤ 30000 → Ψ (some (.ref x)) h → e_Sc g 248 [.ref a, .int (nI i)] h Ψ) ∧
  (∀ (a : Nat) (xs : List Nat) (cap : Nat) (h : e_Hp) (Ψ : e_Q), h.1 a = some (e_L xs cap) → Ψ (some (.int (nI xs.length))) h → e_Sc g 251 [.ref a] h Ψ) ∧
  (∀ (a : Nat) (xs : List Nat) (cap : Nat) (h : e_Hp) (Ψ : e_Q), h.1 a = some (e_L xs cap) → cap ≤ 30000 → Ψ (some (.int (if xs.length = 0 then 1 else 0))) h → e_Sc g 249 [.ref a] h Ψ) ∧
  (∀ (a x c : Nat) (V : Nat → Value) (xs : List Nat) (cap : Nat) (h : e_Hp) (Ψ : e_Q), h.1 a = some (e_L xs cap) → h.1 x = some (e_O c V) → 1 ≤ c → (∀ y ∈ xs, ∃ (cy : Nat) (Vy : Nat → Value), 1 ≤ cy ∧ h.1 y = some (e_O cy Vy)) → cap ≤ 20000 → cap = 0 ∨ 10 ≤ cap → Ψ (some (.int 1)) (e_gr h a (xs ++ [x]) xs.length cap) → e_Sc g 245 [.ref a, .ref x] h Ψ) ∧
  (∀ (a x c i : Nat) (V : Nat → Value) (xs : List Nat) (cap : Nat) (h : e_Hp) (Ψ : e_Q), h.1 a = some (e_L xs cap) → h.1 x = some (e_O c V) → 1 ≤ c → (∀ y ∈ xs, ∃ (cy : Nat) (Vy : Nat → Value), 1 ≤ cy ∧ h.1 y = some (e_O cy Vy)) → cap ≤ 20000 → cap = 0 ∨ 10 ≤ cap → i ≤ xs.length → Ψ none (e_gr h a (xs.take i ++ x :: xs.drop i) xs.length cap) → e_Sc g 246 [.ref a, .int (nI i), .ref x] h Ψ) ∧
  (∀ (a i x : Nat) (xs : List Nat) (cap : Nat) (h : e_Hp) (Ψ : e_Q), h.1 a = some (e_L xs cap) → xs[i]? = some x → (∀ y ∈ xs, ∃ (cy : Nat) (Vy : Nat → Value), 1 ≤ cy ∧ h.1 y = some (e_O cy Vy)) → cap ≤ 30000 → Ψ (some (.ref x)) (e_wr h a (e_L (xs.eraseIdx i) cap)) → e_Sc g 250 [.ref a, .int (nI i)] h Ψ) ∧
  (∀ (a : Nat) (xs : List Nat) (cap : Nat) (h : e_Hp) (Ψ : e_Q), h.1 a = some (e_L xs cap) → cap ≤ 30000 → Ψ none (e_wr h a (e_L [] cap)) → e_Sc g 247 [.ref a] h Ψ) ∧
  (∀ (a : Nat) (h : e_Hp) (Ψ : e_Q), h.1 a = some (e_O 0 (e_dv 0)) → Ψ none (e_wr h a (e_L [] 0)) → e_Sc g 244 [.ref a] h Ψ)
/-- a set of addresses, as a number -/
def k_in (N a : Nat) : Prop := N.testBit a = true
theorem k_in.lt {N a : Nat} (h : k_in N a) : a < N := by
  apply Classical.byContradiction
  intro c
  unfold k_in at h
  rw [Nat.testBit_lt_two_pow (Nat.lt_of_le_of_lt (Nat.le_of_not_lt c) Nat.lt_two_pow_self)] at h
  cases h
/-- the sum of the capacities -/
def k_sL (C : Nat → Nat) : Nat → Nat
  | 0 => 0
  | n + 1 => k_sL C n + C n
def k_su (C : Nat → Nat) (N : Nat) : Nat := k_sL (fun a => if N.testBit a = true then C a else 0) N
theorem k_su_out {C : Nat → Nat} {a v : Nat} : ∀ {N : Nat}, N ≤ a → k_sL (va_up C a v) N = k_sL C N
  | 0, _ => rfl
  | n + 1, h => by
    simp only [k_sL]
    rw [k_su_out (by omega), up_n (by omega)]
theorem k_sL_up {C : Nat → Nat} {a v : Nat} : ∀ {N : Nat}, a < N → k_sL (va_up C a v) N + C a = k_sL C N + v
  | 0, h => by omega
  | n + 1, h => by
    simp only [k_sL]
    by_cases e : a = n
    · subst e
      rw [k_su_out (Nat.le_refl _), up_s]
      omega
    · rw [up_n (by omega)]
      have := k_sL_up (C := C) (v := v) (a := a) (N := n) (by omega)
      omega
theorem k_su_up {C : Nat → Nat} {a v N : Nat} (h : k_in N a) : k_su (va_up C a v) N + C a = k_su C N + v := by
  have e : (fun b => if N.testBit b = true then va_up C a v b else 0) = va_up (fun b => if N.testBit b = true then C b else 0) a v := by
    funext b
    by_cases c : b = a
    · subst c; rw [up_s, up_s, if_pos (show N.testBit b = true from h)]
    · rw [up_n c, up_n c]
  have k := k_sL_up (C := fun b => if N.testBit b = true then C b else 0) (v := v) h.lt
  rw [if_pos (show N.testBit a = true from h)] at k
  unfold k_su
  rw [e]
  exact k
/-- room: what was made besides what the lists' growing made -/
def k_ro (N x y : Nat) (C : Nat → Nat) (r : Nat × Nat) (C' : Nat → Nat) (r' : Nat × Nat) : Prop :=
  r.1 ≤ r'.1 ∧ r.2 ≤ r'.2 ∧ r'.1 + k_su C N ≤ r.1 + k_su C' N + x ∧ r'.2 + 4 * k_su C N ≤ r.2 + 4 * k_su C' N + y ∧ ∀ a, C' a = C a ∨ (10 ≤ C' a ∧ C' a ≤ 2300 ∧ k_in N a)
theorem k_ro.rf {N : Nat} {C : Nat → Nat} {r : Nat × Nat} : k_ro N 0 0 C r C r := ⟨Nat.le_refl _, Nat.le_refl _, by omega, by omega, fun a => Or.inl rfl⟩
theorem k_ro.tr {N x y x2 y2 : Nat} {C C1 C2 : Nat → Nat} {r r1 r2 : Nat × Nat} (h : k_ro N x y C r C1 r1) (k : k_ro N x2 y2 C1 r1 C2 r2) : k_ro N (x + x2) (y + y2) C r C2 r2 := by
  obtain ⟨a, b, c, d, e⟩ := h
  obtain ⟨a', b', c', d', e'⟩ := k
  refine ⟨by omega, by omega, by omega, by omega, fun z => ?_⟩
  rcases e' z with w | w
  · rw [w]; exact e z
  · exact Or.inr w
theorem k_ro.le {N x y x2 y2 : Nat} {C C1 : Nat → Nat} {r r1 : Nat × Nat} (h : k_ro N x y C r C1 r1) (hx : x ≤ x2) (hy : y ≤ y2) : k_ro N x2 y2 C r C1 r1 := by
  obtain ⟨a, b, c, d, e⟩ := h
  exact ⟨a, b, by omega, by omega, e⟩
theorem k_ro.new {N : Nat} {C : Nat → Nat} {r : Nat × Nat} (k m : Nat) : k_ro N k m C r C (r.1 + k, r.2 + m) := ⟨Nat.le_add_right _ _, Nat.le_add_right _ _, by simp only; omega, by simp only; omega, fun a => Or.inl rfl⟩
/-- what lies in a list are objects of the class -/
def k_el (Z : k_Z) (U : k_U) (a : Nat) : Prop := ∀ y, y ∈ U.2.1 a → ∃ c, 1 ≤ c ∧ c ≤ 12 ∧ Z.1 y = c + 1
section KA
variable {Z : k_Z} {P : k_P} {U : k_U} {B : Nat → Option e_Cl} {r : Nat × Nat} {g : e_G} {Ψ : e_Q}
def k_zt (Z : k_Z) (a t : Nat) : k_Z := (va_up Z.1 a t, Z.2)
def k_zd (Z : k_Z) (a d : Nat) : k_Z := (Z.1, Z.2.1, va_up Z.2.2 a d)
def k_zc (Z : k_Z) (C : Nat → Nat) : k_Z := (Z.1, C, Z.2.2)
theorem k_al {c : e_Cl} {k : Nat} (t : Z.1 r.1 = 0) : e_al (K_H Z P U (B, r)) c k = K_H Z P U (va_up B r.1 (some c), (r.1 + 1, r.2 + k)) := by
  unfold e_al K_H
  refine Prod.ext (funext fun b => ?_) rfl
  by_cases e : b = r.1
  · subst e
    simp only [va_up, if_pos, k_cell, t]
  · simp only [va_up, if_neg e]
theorem k_rg {a c : Nat} {V : Nat → Value} (t : Z.1 a = 0) {kk : (Nat → Value) → Prop} : e_gO (K_H Z P U (va_up B a (some (e_O c V)), r)) a c kk = kk V := by
  unfold e_gO
  rw [k_at0 t]
  show (match va_up B a (some (e_O c V)) a with | some (.inl o) => o.1 = c ∧ kk o.2 | _ => False) = _
  rw [up_s]
  exact propext ⟨fun q => q.2, fun q => ⟨rfl, q⟩⟩
theorem k_ri {a c : Nat} {V : Nat → Value} (t : Z.1 a = 0) : e_isC (K_H Z P U (va_up B a (some (e_O c V)), r)) a c = True := by
  unfold e_isC
  rw [k_at0 t]
  simp only [up_s]
theorem k_rw {a : Nat} {c c' : e_Cl} (t : Z.1 a = 0) : e_wr (K_H Z P U (va_up B a (some c), r)) a c' = K_H Z P U (va_up B a (some c'), r) := by
  unfold e_wr K_H
  refine Prod.ext (funext fun b => ?_) rfl
  by_cases e : b = a
  · subst e
    simp only [va_up, if_pos, k_cell, t]
  · simp only [va_up, if_neg e]
/-- a made object becomes one of the class's -/
theorem k_abs {a : Nat} {c : e_Cl} {Z' : k_Z} {P' : k_P} {U' : k_U} (ha : ∀ d, k_cell Z' P' U' d a = some c) (hb : ∀ b d, b ≠ a → k_cell Z' P' U' d b = k_cell Z P U d b) (t : Z.1 a = 0) : K_H Z P U (va_up B a (some c), r) = K_H Z' P' U' (B, r) := by
  unfold K_H
  refine Prod.ext (funext fun b => ?_) rfl
  by_cases e : b = a
  · subst e
    simp only [va_up, if_pos, ha]
    simp only [k_cell, t, if_pos]
  · simp only [va_up, if_neg e, hb b _ e]
theorem l_get (hA : e_AK g) {a i x : Nat} (t : k_tL Z a) (hc : Z.2.1 a ≤ 2300) (hx : (U.2.1 a)[i]? = some x) (q : Ψ (some (.ref x)) (K_H Z P U (B, r))) : e_Sc g 248 [.ref a, .int (nI i)] (K_H Z P U (B, r)) Ψ := hA.1 a i x _ _ _ Ψ (k_atL t) hx (by omega) q
theorem l_size (hA : e_AK g) {a : Nat} (t : k_tL Z a) (q : Ψ (some (.int (nI (U.2.1 a).length))) (K_H Z P U (B, r))) : e_Sc g 251 [.ref a] (K_H Z P U (B, r)) Ψ := hA.2.1 a _ _ _ Ψ (k_atL t) q
theorem l_empty (hA : e_AK g) {a : Nat} (t : k_tL Z a) (hc : Z.2.1 a ≤ 2300) (q : Ψ (some (.int (if (U.2.1 a).length = 0 then 1 else 0))) (K_H Z P U (B, r))) : e_Sc g 249 [.ref a] (K_H Z P U (B, r)) Ψ := hA.2.2.1 a _ _ _ Ψ (k_atL t) (by omega) q
theorem k_el.at {a : Nat} (e : k_el Z U a) : ∀ y ∈ U.2.1 a, ∃ (cy : Nat) (Vy : Nat → Value), 1 ≤ cy ∧ (K_H Z P U (B, r)).1 y = some (e_O cy Vy) := fun y hy => by
  obtain ⟨c, h1, h2, h3⟩ := e y hy
  exact ⟨c, _, h1, k_atO h3 h1 h2⟩
theorem l_rem (hA : e_AK g) {a i x : Nat} (t : k_tL Z a) (hel : k_el Z U a) (hc : Z.2.1 a ≤ 2300) (hx : (U.2.1 a)[i]? = some x) (q : Ψ (some (.ref x)) (K_H Z P (k_wl U a ((U.2.1 a).eraseIdx i)) (B, r))) : e_Sc g 250 [.ref a, .int (nI i)] (K_H Z P U (B, r)) Ψ := hA.2.2.2.2.2.1 a i x _ _ _ Ψ (k_atL t) hx hel.at (by omega) (by rw [k_wL t]; exact q)
theorem l_clear (hA : e_AK g) {a : Nat} (t : k_tL Z a) (hc : Z.2.1 a ≤ 2300) (q : Ψ none (K_H Z P (k_wl U a []) (B, r))) : e_Sc g 247 [.ref a] (K_H Z P U (B, r)) Ψ := hA.2.2.2.2.2.2.1 a _ _ _ Ψ (k_atL t) (by omega) (by rw [k_wL t]; exact q)
theorem k_wLc {a : Nat} {l : List Nat} {c : Nat} (t : k_tL Z a) : (e_wr (K_H Z P U (B, r)) a (e_L l c)).1 = (K_H (k_zc Z (va_up Z.2.1 a c)) P (k_wl U a l) (B, r)).1 := by
  unfold e_wr K_H
  refine funext fun b => ?_
  by_cases e : b = a
  · subst e
    have t' : k_tL (k_zc Z (va_up Z.2.1 b c)) b := t
    show va_up _ b (some (e_L l c)) b = k_cell (k_zc Z (va_up Z.2.1 b c)) P (k_wl U b l) (B b) b
    rw [k_cL t']
    simp only [k_zc, k_wl, va_up, if_pos]
  · have ev : ∀ c', k_V c' b (k_zc Z (va_up Z.2.1 a c)) P (k_wl U a l) = k_V c' b Z P U := fun c' => rfl
    show va_up _ a (some (e_L l c)) b = k_cell (k_zc Z (va_up Z.2.1 a c)) P (k_wl U a l) (B b) b
    rw [up_n e]
    unfold k_cell
    simp only [ev]
    simp only [k_zc, k_wl, va_up, if_neg e]
    rfl
theorem k_grow {N a : Nat} {ys : List Nat} {n : Nat} (t : k_tL Z a) (hN : k_in N a) (hn : n < 1500) (hl : (U.2.1 a).length = n) (hc : Z.2.1 a ≤ 2300) (h0 : Z.2.1 a = 0 ∨ 10 ≤ Z.2.1 a) {Φ : e_Hp → Prop}
    (q : ∀ C' r', k_ro N 0 0 Z.2.1 r C' r' → Φ (K_H (k_zc Z C') P (k_wl U a ys) (B, r'))) : Φ (e_gr (K_H Z P U (B, r)) a ys n (Z.2.1 a)) := by
  unfold e_gr
  by_cases c1 : n < Z.2.1 a
  · rw [if_pos c1, k_wL t]
    exact q Z.2.1 r k_ro.rf
  rw [if_neg c1]
  have w : ∀ c, ((e_wr (K_H Z P U (B, r)) a (e_L ys c)).1, r.1 + 1, r.2 + c) = K_H (k_zc Z (va_up Z.2.1 a c)) P (k_wl U a ys) (B, (r.1 + 1, r.2 + c)) := fun c => by
    rw [k_wLc t]
    rfl
  have ro : ∀ c, Z.2.1 a + 1 ≤ c → c ≤ 4 * (c - Z.2.1 a) → 10 ≤ c → c ≤ 2300 → k_ro N 0 0 Z.2.1 r (va_up Z.2.1 a c) (r.1 + 1, r.2 + c) := fun c h1 h2 h3 h4 => by
    have k := k_su_up (C := Z.2.1) (v := c) hN
    refine ⟨by simp only; omega, by simp only; omega, by simp only; omega, by simp only; omega, fun z => ?_⟩
    by_cases e : z = a
    · subst e
      rw [up_s]
      exact Or.inr ⟨h3, h4, hN⟩
    · rw [up_n e]
      exact Or.inl rfl
  by_cases c2 : Z.2.1 a = 0
  · rw [if_pos c2]
    have := q _ _ (ro 10 (by omega) (by omega) (by omega) (by omega))
    rw [← w] at this
    exact this
  · rw [if_neg c2]
    have := q _ _ (ro (Z.2.1 a + Z.2.1 a / 2) (by omega) (by omega) (by omega) (by omega))
    rw [← w] at this
    exact this
theorem l_add (hA : e_AK g) {N a x c : Nat} (t : k_tL Z a) (hel : k_el Z U a) (hN : k_in N a) (hn : (U.2.1 a).length < 1500) (hc : Z.2.1 a ≤ 2300) (h0 : Z.2.1 a = 0 ∨ 10 ≤ Z.2.1 a) (tx : Z.1 x = c + 1) (h1 : 1 ≤ c) (h2 : c ≤ 12)
    (q : ∀ C' r', k_ro N 0 0 Z.2.1 r C' r' → Ψ (some (.int 1)) (K_H (k_zc Z C') P (k_wl U a (U.2.1 a ++ [x])) (B, r'))) : e_Sc g 245 [.ref a, .ref x] (K_H Z P U (B, r)) Ψ :=
  hA.2.2.2.1 a x c _ _ _ _ Ψ (k_atL t) (k_atO tx h1 h2) h1 hel.at (by omega) h0 (k_grow (Φ := fun h => Ψ (some (.int 1)) h) t hN hn rfl hc h0 q)
theorem l_addAt (hA : e_AK g) {N a i x c : Nat} (t : k_tL Z a) (hel : k_el Z U a) (hN : k_in N a) (hn : (U.2.1 a).length < 1500) (hc : Z.2.1 a ≤ 2300) (h0 : Z.2.1 a = 0 ∨ 10 ≤ Z.2.1 a) (tx : Z.1 x = c + 1) (h1 : 1 ≤ c) (h2 : c ≤ 12) (hi : i ≤ (U.2.1 a).length)
    (q : ∀ C' r', k_ro N 0 0 Z.2.1 r C' r' → Ψ none (K_H (k_zc Z C') P (k_wl U a ((U.2.1 a).take i ++ x :: (U.2.1 a).drop i)) (B, r'))) : e_Sc g 246 [.ref a, .int (nI i), .ref x] (K_H Z P U (B, r)) Ψ :=
  hA.2.2.2.2.1 a x c i _ _ _ _ Ψ (k_atL t) (k_atO tx h1 h2) h1 hel.at (by omega) h0 hi (k_grow (Φ := fun h => Ψ none h) t hN hn rfl hc h0 q)
end KA
