/-! the class: its objects laid into a heap. Z = (tags, capacities, whose a lock is), P = (ints by field and address, arrays by address), U = (waits of deals, lists, arrays of references) -/
def k_K : List (List Nat) := [[], [0, 0, 0, 0, 0, 0], [0, 0, 0, 0, 0, 0, 0, 0, 0, 0, 0, 0, 0, 1, 4, 5], [2, 0, 0, 0, 0, 0, 0, 0], [4, 0, 0, 0], [0, 0, 0, 0, 4], [4, 5, 6, 7, 8, 0, 0], [0, 0, 0, 0, 0, 0, 0, 0, 0, 0], [4, 0, 5], [0, 4, 5, 0, 6, 7], [0, 0, 0, 0, 0, 0, 0], [0, 0, 0, 0, 4], [4, 8, 12, 16, 17, 18, 19, 20, 22, 28, 0, 0]]
abbrev k_Z : Type := (Nat → Nat) × (Nat → Nat) × (Nat → Nat)
abbrev k_P : Type := (Nat → Nat → Int32) × (Nat → Nat → Int32)
abbrev k_U : Type := (Nat → Option Nat) × (Nat → List Nat) × (Nat → Nat → Option Nat)
def k_V (c a : Nat) (Z : k_Z) (P : k_P) (U : k_U) (k : Nat) : Value := match (k_K.getD c [])[k]? with
  | none => e_dv c k
  | some 0 => .int (P.1 (20 * c + k) a)
  | some 1 => va_rf (U.1 a)
  | some 2 => .ref (Z.2.2 a)
  | some (j + 3) => .ref (a + j)
def k_cell (Z : k_Z) (P : k_P) (U : k_U) (d : Option e_Cl) (a : Nat) : Option e_Cl :=
  if Z.1 a = 0 then d else if 30 ≤ Z.1 a ∧ Z.1 a ≤ 32 then some (e_L (U.2.1 a) (Z.2.1 a)) else if Z.1 a = 20 then some (e_R 2 40 (U.2.2 a)) else if Z.1 a = 21 then some (e_R 3 40 (U.2.2 a))
  else if 100 ≤ Z.1 a then some (e_I 0 (Z.1 a - 100) (P.2 a)) else some (e_O (Z.1 a - 1) (k_V (Z.1 a - 1) a Z P U))
def K_H (Z : k_Z) (P : k_P) (U : k_U) (h : e_Hp) : e_Hp := (fun a => k_cell Z P U (h.1 a) a, h.2)
def k_wr (P : k_P) (f a : Nat) (v : Int32) : k_P := (va_up P.1 f (va_up (P.1 f) a v), P.2)
def k_wa (P : k_P) (a : Nat) (f : Nat → Int32) : k_P := (P.1, va_up P.2 a f)
def k_ww (U : k_U) (a : Nat) (w : Option Nat) : k_U := (va_up U.1 a w, U.2)
def k_wl (U : k_U) (a : Nat) (l : List Nat) : k_U := (U.1, va_up U.2.1 a l, U.2.2)
def k_wx (U : k_U) (a : Nat) (f : Nat → Option Nat) : k_U := (U.1, U.2.1, va_up U.2.2 a f)
section KS
variable {Z : k_Z} {P : k_P} {U : k_U} {h : e_Hp}
theorem k_c2 : (K_H Z P U h).2 = h.2 := id rfl
theorem k_atO {a c : Nat} (t : Z.1 a = c + 1) (h1 : 1 ≤ c) (h2 : c ≤ 12) : (K_H Z P U h).1 a = some (e_O c (k_V c a Z P U)) := by
  have e0 : ¬ c + 1 = 0 := by omega
  have e1 : ¬ (30 ≤ c + 1 ∧ c + 1 ≤ 32) := by omega
  have e2 : ¬ c + 1 = 20 := by omega
  have e3 : ¬ c + 1 = 21 := by omega
  have e4 : ¬ 100 ≤ c + 1 := by omega
  simp only [K_H, k_cell, t, if_neg e0, if_neg e1, if_neg e2, if_neg e3, if_neg e4, Nat.add_sub_cancel]
theorem k_atI {a n : Nat} (t : Z.1 a = 100 + n) : (K_H Z P U h).1 a = some (e_I 0 n (P.2 a)) := by
  have e0 : ¬ 100 + n = 0 := by omega
  have e1 : ¬ (30 ≤ 100 + n ∧ 100 + n ≤ 32) := by omega
  have e2 : ¬ 100 + n = 20 := by omega
  have e3 : ¬ 100 + n = 21 := by omega
  have e4 : 100 ≤ 100 + n := by omega
  simp only [K_H, k_cell, t, if_neg e0, if_neg e1, if_neg e2, if_neg e3, if_pos e4, Nat.add_sub_cancel_left]
def k_tL (Z : k_Z) (a : Nat) : Prop := 30 ≤ Z.1 a ∧ Z.1 a ≤ 32
theorem k_cL {a : Nat} (t : k_tL Z a) (d : Option e_Cl) : k_cell Z P U d a = some (e_L (U.2.1 a) (Z.2.1 a)) := by
  have e0 : ¬ Z.1 a = 0 := by have := t.1; omega
  unfold k_cell
  rw [if_neg e0]
  exact if_pos t
theorem k_atL {a : Nat} (t : k_tL Z a) : (K_H Z P U h).1 a = some (e_L (U.2.1 a) (Z.2.1 a)) := k_cL t _
theorem k_atR2 {a : Nat} (t : Z.1 a = 20) : (K_H Z P U h).1 a = some (e_R 2 40 (U.2.2 a)) := by
  simp only [K_H, k_cell, t]; rfl
theorem k_atR3 {a : Nat} (t : Z.1 a = 21) : (K_H Z P U h).1 a = some (e_R 3 40 (U.2.2 a)) := by
  simp only [K_H, k_cell, t]; rfl
theorem k_at0 {a : Nat} (t : Z.1 a = 0) : (K_H Z P U h).1 a = h.1 a := by
  simp only [K_H, k_cell, t]; rfl
theorem k_gO {a c : Nat} (t : Z.1 a = c + 1) (h1 : 1 ≤ c) (h2 : c ≤ 12) {kk : (Nat → Value) → Prop} : e_gO (K_H Z P U h) a c kk = kk (k_V c a Z P U) := by
  unfold e_gO
  rw [k_atO t h1 h2]
  exact propext ⟨fun q => q.2, fun q => ⟨rfl, q⟩⟩
theorem k_isC {a c : Nat} (t : Z.1 a = c + 1) (h1 : 1 ≤ c) (h2 : c ≤ 12) : e_isC (K_H Z P U h) a c = True := by
  unfold e_isC
  rw [k_atO t h1 h2]
  exact eq_true rfl
theorem k_isL {a : Nat} (t : k_tL Z a) : e_isC (K_H Z P U h) a 0 = True := by
  unfold e_isC
  rw [k_atL t]
  exact eq_true rfl
theorem k_gI {a n : Nat} (t : Z.1 a = 100 + n) {kk : Nat → (Nat → Int32) → Prop} : e_gI (K_H Z P U h) a 0 kk = kk n (P.2 a) := by
  unfold e_gI
  rw [k_atI t]
  exact propext ⟨fun q => q.2, fun q => ⟨rfl, q⟩⟩
theorem k_gR2 {a : Nat} (t : Z.1 a = 20) {kk : Nat → Nat → (Nat → Option Nat) → Prop} : e_gR (K_H Z P U h) a kk = kk 2 40 (U.2.2 a) := by
  unfold e_gR
  rw [k_atR2 t]
theorem k_gR3 {a : Nat} (t : Z.1 a = 21) {kk : Nat → Nat → (Nat → Option Nat) → Prop} : e_gR (K_H Z P U h) a kk = kk 3 40 (U.2.2 a) := by
  unfold e_gR
  rw [k_atR3 t]
/-- a write at one address -/
theorem k_put {a : Nat} {c : e_Cl} {P' : k_P} {U' : k_U} (ha : ∀ d, k_cell Z P' U' d a = some c) (hb : ∀ b d, b ≠ a → k_cell Z P' U' d b = k_cell Z P U d b) : e_wr (K_H Z P U h) a c = K_H Z P' U' h := by
  unfold e_wr K_H
  refine Prod.ext (funext fun b => ?_) rfl
  by_cases e : b = a
  · subst e
    simp only [va_up, if_pos, ha]
  · simp only [va_up, if_neg e, hb b _ e]
theorem k_cO {a c : Nat} (t : Z.1 a = c + 1) (h1 : 1 ≤ c) (h2 : c ≤ 12) (d : Option e_Cl) : k_cell Z P U d a = some (e_O c (k_V c a Z P U)) := k_atO (h := (fun _ => d, (0, 0))) t h1 h2
theorem k_wO {a c k : Nat} {v : Int32} (t : Z.1 a = c + 1) (h1 : 1 ≤ c) (h2 : c ≤ 12) (hk : (k_K.getD c [])[k]? = some 0) : e_wr (K_H Z P U h) a (e_O c (va_up (k_V c a Z P U) k (.int v))) = K_H Z (k_wr P (20 * c + k) a v) U h := by
  refine k_put (fun d => ?_) (fun b d hb => ?_)
  · rw [k_cO t h1 h2]
    congr 2
    funext j
    by_cases e : j = k
    · subst e
      simp only [k_V, hk, va_up, if_pos, k_wr]
    · have e' : ¬ 20 * c + j = 20 * c + k := by omega
      simp only [k_V, va_up, if_neg e, k_wr, if_neg e']
  · have e : ∀ c', k_V c' b Z (k_wr P (20 * c + k) a v) U = k_V c' b Z P U := fun c' => by
      funext j
      have z : (k_wr P (20 * c + k) a v).1 (20 * c' + j) b = P.1 (20 * c' + j) b := by
        simp only [k_wr]
        by_cases z : 20 * c' + j = 20 * c + k
        · rw [z, up_s, up_n hb]
        · rw [up_n z]
      simp only [k_V, z]
    simp only [k_cell, e]
    rfl
theorem k_wI {a n : Nat} {f : Nat → Int32} (t : Z.1 a = 100 + n) : e_wr (K_H Z P U h) a (e_I 0 n f) = K_H Z (k_wa P a f) U h := by
  refine k_put (fun d => ?_) (fun b d hb => ?_)
  · rw [show k_cell Z (k_wa P a f) U d a = some (e_I 0 n ((k_wa P a f).2 a)) from k_atI (h := (fun _ => d, (0, 0))) t]
    simp [k_wa, va_up]
  · simp only [k_cell, k_wa, va_up, if_neg hb]
    rfl
theorem k_wW {a : Nat} {w : Option Nat} (t : Z.1 a = 3) : e_wr (K_H Z P U h) a (e_O 2 (va_up (k_V 2 a Z P U) 13 (va_rf w))) = K_H Z P (k_ww U a w) h := by
  refine k_put (fun d => ?_) (fun b d hb => ?_)
  · rw [k_cO (c := 2) t (by omega) (by omega)]
    congr 2
    funext j
    by_cases e : j = 13
    · subst e
      simp [k_V, k_K, va_up, k_ww]
    · have e13 : ∀ i, (k_K.getD 2 [])[i]? = some 1 → i = 13 := fun i => by
        by_cases hi : i < 20
        · revert hi i
          decide
        · intro z
          rw [List.getElem?_eq_none (by simp [k_K]; omega)] at z
          cases z
      have ne : (k_K.getD 2 [])[j]? ≠ some 1 := fun z => e (e13 j z)
      simp only [k_V, va_up, if_neg e]
      split <;> first | rfl | (rename_i z; exact absurd z ne)
  · have e : ∀ c', k_V c' b Z P (k_ww U a w) = k_V c' b Z P U := fun c' => by
      funext j
      simp only [k_V, k_ww, va_up, if_neg hb]
    simp only [k_cell, e]
    rfl
theorem k_wWr {a x : Nat} (t : Z.1 a = 3) : e_wr (K_H Z P U h) a (e_O 2 (va_up (k_V 2 a Z P U) 13 (.ref x))) = K_H Z P (k_ww U a (some x)) h := k_wW (w := some x) t
theorem k_wWn {a : Nat} (t : Z.1 a = 3) : e_wr (K_H Z P U h) a (e_O 2 (va_up (k_V 2 a Z P U) 13 .null)) = K_H Z P (k_ww U a none) h := k_wW (w := none) t
theorem k_VL {c b a : Nat} {l : List Nat} : k_V c b Z P (k_wl U a l) = k_V c b Z P U := id rfl
theorem k_VX {c b a : Nat} {f : Nat → Option Nat} : k_V c b Z P (k_wx U a f) = k_V c b Z P U := id rfl
theorem k_wL {a : Nat} {l : List Nat} (t : k_tL Z a) : e_wr (K_H Z P U h) a (e_L l (Z.2.1 a)) = K_H Z P (k_wl U a l) h := by
  refine k_put (fun d => ?_) (fun b d hb => ?_)
  · rw [k_cL t]
    simp only [k_wl, va_up, if_pos]
  · simp only [k_cell, k_VL]
    simp only [k_wl, va_up, if_neg hb]
theorem k_wR2 {a : Nat} {f : Nat → Option Nat} (t : Z.1 a = 20) : e_wr (K_H Z P U h) a (e_R 2 40 f) = K_H Z P (k_wx U a f) h := by
  refine k_put (fun d => ?_) (fun b d hb => ?_)
  · simp only [k_cell, t, k_wx, va_up, if_pos]
    rfl
  · simp only [k_cell, k_VX]
    simp only [k_wx, va_up, if_neg hb]
theorem k_wR3 {a : Nat} {f : Nat → Option Nat} (t : Z.1 a = 21) : e_wr (K_H Z P U h) a (e_R 3 40 f) = K_H Z P (k_wx U a f) h := by
  refine k_put (fun d => ?_) (fun b d hb => ?_)
  · simp only [k_cell, t, k_wx, va_up, if_pos]
    rfl
  · simp only [k_cell, k_VX]
    simp only [k_wx, va_up, if_neg hb]
theorem kg1 {a : Nat} (t : Z.1 a = 2) {kk : (Nat → Value) → Prop} : e_gO (K_H Z P U h) a 1 kk = kk (k_V 1 a Z P U) := k_gO t (by decide) (by decide)
theorem ki1 {a : Nat} (t : Z.1 a = 2) : e_isC (K_H Z P U h) a 1 = True := k_isC t (by decide) (by decide)
theorem kv1_0 {a : Nat} : k_V 1 a Z P U 0 = .int (P.1 20 a) := id rfl
theorem kw1_0 {a : Nat} {v : Int32} (t : Z.1 a = 2) : e_wr (K_H Z P U h) a (e_O 1 (va_up (k_V 1 a Z P U) 0 (.int v))) = K_H Z (k_wr P 20 a v) U h := k_wO (c := 1) (k := 0) t (by decide) (by decide) (by decide)
theorem kv1_1 {a : Nat} : k_V 1 a Z P U 1 = .int (P.1 21 a) := id rfl
theorem kw1_1 {a : Nat} {v : Int32} (t : Z.1 a = 2) : e_wr (K_H Z P U h) a (e_O 1 (va_up (k_V 1 a Z P U) 1 (.int v))) = K_H Z (k_wr P 21 a v) U h := k_wO (c := 1) (k := 1) t (by decide) (by decide) (by decide)
theorem kv1_2 {a : Nat} : k_V 1 a Z P U 2 = .int (P.1 22 a) := id rfl
theorem kw1_2 {a : Nat} {v : Int32} (t : Z.1 a = 2) : e_wr (K_H Z P U h) a (e_O 1 (va_up (k_V 1 a Z P U) 2 (.int v))) = K_H Z (k_wr P 22 a v) U h := k_wO (c := 1) (k := 2) t (by decide) (by decide) (by decide)
theorem kv1_3 {a : Nat} : k_V 1 a Z P U 3 = .int (P.1 23 a) := id rfl
theorem kw1_3 {a : Nat} {v : Int32} (t : Z.1 a = 2) : e_wr (K_H Z P U h) a (e_O 1 (va_up (k_V 1 a Z P U) 3 (.int v))) = K_H Z (k_wr P 23 a v) U h := k_wO (c := 1) (k := 3) t (by decide) (by decide) (by decide)
theorem kv1_4 {a : Nat} : k_V 1 a Z P U 4 = .int (P.1 24 a) := id rfl
theorem kw1_4 {a : Nat} {v : Int32} (t : Z.1 a = 2) : e_wr (K_H Z P U h) a (e_O 1 (va_up (k_V 1 a Z P U) 4 (.int v))) = K_H Z (k_wr P 24 a v) U h := k_wO (c := 1) (k := 4) t (by decide) (by decide) (by decide)
theorem kv1_5 {a : Nat} : k_V 1 a Z P U 5 = .int (P.1 25 a) := id rfl
theorem kw1_5 {a : Nat} {v : Int32} (t : Z.1 a = 2) : e_wr (K_H Z P U h) a (e_O 1 (va_up (k_V 1 a Z P U) 5 (.int v))) = K_H Z (k_wr P 25 a v) U h := k_wO (c := 1) (k := 5) t (by decide) (by decide) (by decide)
theorem kg2 {a : Nat} (t : Z.1 a = 3) {kk : (Nat → Value) → Prop} : e_gO (K_H Z P U h) a 2 kk = kk (k_V 2 a Z P U) := k_gO t (by decide) (by decide)
theorem ki2 {a : Nat} (t : Z.1 a = 3) : e_isC (K_H Z P U h) a 2 = True := k_isC t (by decide) (by decide)
theorem kv2_0 {a : Nat} : k_V 2 a Z P U 0 = .int (P.1 40 a) := id rfl
theorem kw2_0 {a : Nat} {v : Int32} (t : Z.1 a = 3) : e_wr (K_H Z P U h) a (e_O 2 (va_up (k_V 2 a Z P U) 0 (.int v))) = K_H Z (k_wr P 40 a v) U h := k_wO (c := 2) (k := 0) t (by decide) (by decide) (by decide)
theorem kv2_1 {a : Nat} : k_V 2 a Z P U 1 = .int (P.1 41 a) := id rfl
theorem kw2_1 {a : Nat} {v : Int32} (t : Z.1 a = 3) : e_wr (K_H Z P U h) a (e_O 2 (va_up (k_V 2 a Z P U) 1 (.int v))) = K_H Z (k_wr P 41 a v) U h := k_wO (c := 2) (k := 1) t (by decide) (by decide) (by decide)
theorem kv2_2 {a : Nat} : k_V 2 a Z P U 2 = .int (P.1 42 a) := id rfl
theorem kw2_2 {a : Nat} {v : Int32} (t : Z.1 a = 3) : e_wr (K_H Z P U h) a (e_O 2 (va_up (k_V 2 a Z P U) 2 (.int v))) = K_H Z (k_wr P 42 a v) U h := k_wO (c := 2) (k := 2) t (by decide) (by decide) (by decide)
theorem kv2_3 {a : Nat} : k_V 2 a Z P U 3 = .int (P.1 43 a) := id rfl
theorem kw2_3 {a : Nat} {v : Int32} (t : Z.1 a = 3) : e_wr (K_H Z P U h) a (e_O 2 (va_up (k_V 2 a Z P U) 3 (.int v))) = K_H Z (k_wr P 43 a v) U h := k_wO (c := 2) (k := 3) t (by decide) (by decide) (by decide)
theorem kv2_4 {a : Nat} : k_V 2 a Z P U 4 = .int (P.1 44 a) := id rfl
theorem kw2_4 {a : Nat} {v : Int32} (t : Z.1 a = 3) : e_wr (K_H Z P U h) a (e_O 2 (va_up (k_V 2 a Z P U) 4 (.int v))) = K_H Z (k_wr P 44 a v) U h := k_wO (c := 2) (k := 4) t (by decide) (by decide) (by decide)
theorem kv2_5 {a : Nat} : k_V 2 a Z P U 5 = .int (P.1 45 a) := id rfl
theorem kw2_5 {a : Nat} {v : Int32} (t : Z.1 a = 3) : e_wr (K_H Z P U h) a (e_O 2 (va_up (k_V 2 a Z P U) 5 (.int v))) = K_H Z (k_wr P 45 a v) U h := k_wO (c := 2) (k := 5) t (by decide) (by decide) (by decide)
theorem kv2_6 {a : Nat} : k_V 2 a Z P U 6 = .int (P.1 46 a) := id rfl
theorem kw2_6 {a : Nat} {v : Int32} (t : Z.1 a = 3) : e_wr (K_H Z P U h) a (e_O 2 (va_up (k_V 2 a Z P U) 6 (.int v))) = K_H Z (k_wr P 46 a v) U h := k_wO (c := 2) (k := 6) t (by decide) (by decide) (by decide)
theorem kv2_7 {a : Nat} : k_V 2 a Z P U 7 = .int (P.1 47 a) := id rfl
theorem kw2_7 {a : Nat} {v : Int32} (t : Z.1 a = 3) : e_wr (K_H Z P U h) a (e_O 2 (va_up (k_V 2 a Z P U) 7 (.int v))) = K_H Z (k_wr P 47 a v) U h := k_wO (c := 2) (k := 7) t (by decide) (by decide) (by decide)
theorem kv2_8 {a : Nat} : k_V 2 a Z P U 8 = .int (P.1 48 a) := id rfl
theorem kw2_8 {a : Nat} {v : Int32} (t : Z.1 a = 3) : e_wr (K_H Z P U h) a (e_O 2 (va_up (k_V 2 a Z P U) 8 (.int v))) = K_H Z (k_wr P 48 a v) U h := k_wO (c := 2) (k := 8) t (by decide) (by decide) (by decide)
theorem kv2_9 {a : Nat} : k_V 2 a Z P U 9 = .int (P.1 49 a) := id rfl
theorem kw2_9 {a : Nat} {v : Int32} (t : Z.1 a = 3) : e_wr (K_H Z P U h) a (e_O 2 (va_up (k_V 2 a Z P U) 9 (.int v))) = K_H Z (k_wr P 49 a v) U h := k_wO (c := 2) (k := 9) t (by decide) (by decide) (by decide)
theorem kv2_10 {a : Nat} : k_V 2 a Z P U 10 = .int (P.1 50 a) := id rfl
theorem kw2_10 {a : Nat} {v : Int32} (t : Z.1 a = 3) : e_wr (K_H Z P U h) a (e_O 2 (va_up (k_V 2 a Z P U) 10 (.int v))) = K_H Z (k_wr P 50 a v) U h := k_wO (c := 2) (k := 10) t (by decide) (by decide) (by decide)
theorem kv2_11 {a : Nat} : k_V 2 a Z P U 11 = .int (P.1 51 a) := id rfl
theorem kw2_11 {a : Nat} {v : Int32} (t : Z.1 a = 3) : e_wr (K_H Z P U h) a (e_O 2 (va_up (k_V 2 a Z P U) 11 (.int v))) = K_H Z (k_wr P 51 a v) U h := k_wO (c := 2) (k := 11) t (by decide) (by decide) (by decide)
theorem kv2_12 {a : Nat} : k_V 2 a Z P U 12 = .int (P.1 52 a) := id rfl
theorem kw2_12 {a : Nat} {v : Int32} (t : Z.1 a = 3) : e_wr (K_H Z P U h) a (e_O 2 (va_up (k_V 2 a Z P U) 12 (.int v))) = K_H Z (k_wr P 52 a v) U h := k_wO (c := 2) (k := 12) t (by decide) (by decide) (by decide)
theorem kv2_13 {a : Nat} : k_V 2 a Z P U 13 = va_rf (U.1 a) := id rfl
theorem kv2_14 {a : Nat} : k_V 2 a Z P U 14 = .ref (a + 1) := id rfl
theorem kv2_15 {a : Nat} : k_V 2 a Z P U 15 = .ref (a + 2) := id rfl
theorem kg3 {a : Nat} (t : Z.1 a = 4) {kk : (Nat → Value) → Prop} : e_gO (K_H Z P U h) a 3 kk = kk (k_V 3 a Z P U) := k_gO t (by decide) (by decide)
theorem ki3 {a : Nat} (t : Z.1 a = 4) : e_isC (K_H Z P U h) a 3 = True := k_isC t (by decide) (by decide)
theorem kv3_0 {a : Nat} : k_V 3 a Z P U 0 = .ref (Z.2.2 a) := id rfl
theorem kv3_1 {a : Nat} : k_V 3 a Z P U 1 = .int (P.1 61 a) := id rfl
theorem kw3_1 {a : Nat} {v : Int32} (t : Z.1 a = 4) : e_wr (K_H Z P U h) a (e_O 3 (va_up (k_V 3 a Z P U) 1 (.int v))) = K_H Z (k_wr P 61 a v) U h := k_wO (c := 3) (k := 1) t (by decide) (by decide) (by decide)
theorem kv3_2 {a : Nat} : k_V 3 a Z P U 2 = .int (P.1 62 a) := id rfl
theorem kw3_2 {a : Nat} {v : Int32} (t : Z.1 a = 4) : e_wr (K_H Z P U h) a (e_O 3 (va_up (k_V 3 a Z P U) 2 (.int v))) = K_H Z (k_wr P 62 a v) U h := k_wO (c := 3) (k := 2) t (by decide) (by decide) (by decide)
theorem kv3_3 {a : Nat} : k_V 3 a Z P U 3 = .int (P.1 63 a) := id rfl
theorem kw3_3 {a : Nat} {v : Int32} (t : Z.1 a = 4) : e_wr (K_H Z P U h) a (e_O 3 (va_up (k_V 3 a Z P U) 3 (.int v))) = K_H Z (k_wr P 63 a v) U h := k_wO (c := 3) (k := 3) t (by decide) (by decide) (by decide)
theorem kv3_4 {a : Nat} : k_V 3 a Z P U 4 = .int (P.1 64 a) := id rfl
theorem kw3_4 {a : Nat} {v : Int32} (t : Z.1 a = 4) : e_wr (K_H Z P U h) a (e_O 3 (va_up (k_V 3 a Z P U) 4 (.int v))) = K_H Z (k_wr P 64 a v) U h := k_wO (c := 3) (k := 4) t (by decide) (by decide) (by decide)
theorem kv3_5 {a : Nat} : k_V 3 a Z P U 5 = .int (P.1 65 a) := id rfl
theorem kw3_5 {a : Nat} {v : Int32} (t : Z.1 a = 4) : e_wr (K_H Z P U h) a (e_O 3 (va_up (k_V 3 a Z P U) 5 (.int v))) = K_H Z (k_wr P 65 a v) U h := k_wO (c := 3) (k := 5) t (by decide) (by decide) (by decide)
theorem kv3_6 {a : Nat} : k_V 3 a Z P U 6 = .int (P.1 66 a) := id rfl
theorem kw3_6 {a : Nat} {v : Int32} (t : Z.1 a = 4) : e_wr (K_H Z P U h) a (e_O 3 (va_up (k_V 3 a Z P U) 6 (.int v))) = K_H Z (k_wr P 66 a v) U h := k_wO (c := 3) (k := 6) t (by decide) (by decide) (by decide)
theorem kv3_7 {a : Nat} : k_V 3 a Z P U 7 = .int (P.1 67 a) := id rfl
theorem kw3_7 {a : Nat} {v : Int32} (t : Z.1 a = 4) : e_wr (K_H Z P U h) a (e_O 3 (va_up (k_V 3 a Z P U) 7 (.int v))) = K_H Z (k_wr P 67 a v) U h := k_wO (c := 3) (k := 7) t (by decide) (by decide) (by decide)
theorem kg4 {a : Nat} (t : Z.1 a = 5) {kk : (Nat → Value) → Prop} : e_gO (K_H Z P U h) a 4 kk = kk (k_V 4 a Z P U) := k_gO t (by decide) (by decide)
theorem ki4 {a : Nat} (t : Z.1 a = 5) : e_isC (K_H Z P U h) a 4 = True := k_isC t (by decide) (by decide)
theorem kv4_0 {a : Nat} : k_V 4 a Z P U 0 = .ref (a + 1) := id rfl
theorem kv4_1 {a : Nat} : k_V 4 a Z P U 1 = .int (P.1 81 a) := id rfl
theorem kw4_1 {a : Nat} {v : Int32} (t : Z.1 a = 5) : e_wr (K_H Z P U h) a (e_O 4 (va_up (k_V 4 a Z P U) 1 (.int v))) = K_H Z (k_wr P 81 a v) U h := k_wO (c := 4) (k := 1) t (by decide) (by decide) (by decide)
theorem kv4_2 {a : Nat} : k_V 4 a Z P U 2 = .int (P.1 82 a) := id rfl
theorem kw4_2 {a : Nat} {v : Int32} (t : Z.1 a = 5) : e_wr (K_H Z P U h) a (e_O 4 (va_up (k_V 4 a Z P U) 2 (.int v))) = K_H Z (k_wr P 82 a v) U h := k_wO (c := 4) (k := 2) t (by decide) (by decide) (by decide)
theorem kv4_3 {a : Nat} : k_V 4 a Z P U 3 = .int (P.1 83 a) := id rfl
theorem kw4_3 {a : Nat} {v : Int32} (t : Z.1 a = 5) : e_wr (K_H Z P U h) a (e_O 4 (va_up (k_V 4 a Z P U) 3 (.int v))) = K_H Z (k_wr P 83 a v) U h := k_wO (c := 4) (k := 3) t (by decide) (by decide) (by decide)
theorem kg5 {a : Nat} (t : Z.1 a = 6) {kk : (Nat → Value) → Prop} : e_gO (K_H Z P U h) a 5 kk = kk (k_V 5 a Z P U) := k_gO t (by decide) (by decide)
theorem ki5 {a : Nat} (t : Z.1 a = 6) : e_isC (K_H Z P U h) a 5 = True := k_isC t (by decide) (by decide)
theorem kv5_0 {a : Nat} : k_V 5 a Z P U 0 = .int (P.1 100 a) := id rfl
theorem kw5_0 {a : Nat} {v : Int32} (t : Z.1 a = 6) : e_wr (K_H Z P U h) a (e_O 5 (va_up (k_V 5 a Z P U) 0 (.int v))) = K_H Z (k_wr P 100 a v) U h := k_wO (c := 5) (k := 0) t (by decide) (by decide) (by decide)
theorem kv5_1 {a : Nat} : k_V 5 a Z P U 1 = .int (P.1 101 a) := id rfl
theorem kw5_1 {a : Nat} {v : Int32} (t : Z.1 a = 6) : e_wr (K_H Z P U h) a (e_O 5 (va_up (k_V 5 a Z P U) 1 (.int v))) = K_H Z (k_wr P 101 a v) U h := k_wO (c := 5) (k := 1) t (by decide) (by decide) (by decide)
theorem kv5_2 {a : Nat} : k_V 5 a Z P U 2 = .int (P.1 102 a) := id rfl
theorem kw5_2 {a : Nat} {v : Int32} (t : Z.1 a = 6) : e_wr (K_H Z P U h) a (e_O 5 (va_up (k_V 5 a Z P U) 2 (.int v))) = K_H Z (k_wr P 102 a v) U h := k_wO (c := 5) (k := 2) t (by decide) (by decide) (by decide)
theorem kv5_3 {a : Nat} : k_V 5 a Z P U 3 = .int (P.1 103 a) := id rfl
theorem kw5_3 {a : Nat} {v : Int32} (t : Z.1 a = 6) : e_wr (K_H Z P U h) a (e_O 5 (va_up (k_V 5 a Z P U) 3 (.int v))) = K_H Z (k_wr P 103 a v) U h := k_wO (c := 5) (k := 3) t (by decide) (by decide) (by decide)
theorem kv5_4 {a : Nat} : k_V 5 a Z P U 4 = .ref (a + 1) := id rfl
theorem kg6 {a : Nat} (t : Z.1 a = 7) {kk : (Nat → Value) → Prop} : e_gO (K_H Z P U h) a 6 kk = kk (k_V 6 a Z P U) := k_gO t (by decide) (by decide)
theorem ki6 {a : Nat} (t : Z.1 a = 7) : e_isC (K_H Z P U h) a 6 = True := k_isC t (by decide) (by decide)
theorem kv6_0 {a : Nat} : k_V 6 a Z P U 0 = .ref (a + 1) := id rfl
theorem kv6_1 {a : Nat} : k_V 6 a Z P U 1 = .ref (a + 2) := id rfl
theorem kv6_2 {a : Nat} : k_V 6 a Z P U 2 = .ref (a + 3) := id rfl
theorem kv6_3 {a : Nat} : k_V 6 a Z P U 3 = .ref (a + 4) := id rfl
theorem kv6_4 {a : Nat} : k_V 6 a Z P U 4 = .ref (a + 5) := id rfl
theorem kv6_5 {a : Nat} : k_V 6 a Z P U 5 = .int (P.1 125 a) := id rfl
theorem kw6_5 {a : Nat} {v : Int32} (t : Z.1 a = 7) : e_wr (K_H Z P U h) a (e_O 6 (va_up (k_V 6 a Z P U) 5 (.int v))) = K_H Z (k_wr P 125 a v) U h := k_wO (c := 6) (k := 5) t (by decide) (by decide) (by decide)
theorem kv6_6 {a : Nat} : k_V 6 a Z P U 6 = .int (P.1 126 a) := id rfl
theorem kw6_6 {a : Nat} {v : Int32} (t : Z.1 a = 7) : e_wr (K_H Z P U h) a (e_O 6 (va_up (k_V 6 a Z P U) 6 (.int v))) = K_H Z (k_wr P 126 a v) U h := k_wO (c := 6) (k := 6) t (by decide) (by decide) (by decide)
theorem kg7 {a : Nat} (t : Z.1 a = 8) {kk : (Nat → Value) → Prop} : e_gO (K_H Z P U h) a 7 kk = kk (k_V 7 a Z P U) := k_gO t (by decide) (by decide)
theorem ki7 {a : Nat} (t : Z.1 a = 8) : e_isC (K_H Z P U h) a 7 = True := k_isC t (by decide) (by decide)
theorem kv7_0 {a : Nat} : k_V 7 a Z P U 0 = .int (P.1 140 a) := id rfl
theorem kw7_0 {a : Nat} {v : Int32} (t : Z.1 a = 8) : e_wr (K_H Z P U h) a (e_O 7 (va_up (k_V 7 a Z P U) 0 (.int v))) = K_H Z (k_wr P 140 a v) U h := k_wO (c := 7) (k := 0) t (by decide) (by decide) (by decide)
theorem kv7_1 {a : Nat} : k_V 7 a Z P U 1 = .int (P.1 141 a) := id rfl
theorem kw7_1 {a : Nat} {v : Int32} (t : Z.1 a = 8) : e_wr (K_H Z P U h) a (e_O 7 (va_up (k_V 7 a Z P U) 1 (.int v))) = K_H Z (k_wr P 141 a v) U h := k_wO (c := 7) (k := 1) t (by decide) (by decide) (by decide)
theorem kv7_2 {a : Nat} : k_V 7 a Z P U 2 = .int (P.1 142 a) := id rfl
theorem kw7_2 {a : Nat} {v : Int32} (t : Z.1 a = 8) : e_wr (K_H Z P U h) a (e_O 7 (va_up (k_V 7 a Z P U) 2 (.int v))) = K_H Z (k_wr P 142 a v) U h := k_wO (c := 7) (k := 2) t (by decide) (by decide) (by decide)
theorem kv7_3 {a : Nat} : k_V 7 a Z P U 3 = .int (P.1 143 a) := id rfl
theorem kw7_3 {a : Nat} {v : Int32} (t : Z.1 a = 8) : e_wr (K_H Z P U h) a (e_O 7 (va_up (k_V 7 a Z P U) 3 (.int v))) = K_H Z (k_wr P 143 a v) U h := k_wO (c := 7) (k := 3) t (by decide) (by decide) (by decide)
theorem kv7_4 {a : Nat} : k_V 7 a Z P U 4 = .int (P.1 144 a) := id rfl
theorem kw7_4 {a : Nat} {v : Int32} (t : Z.1 a = 8) : e_wr (K_H Z P U h) a (e_O 7 (va_up (k_V 7 a Z P U) 4 (.int v))) = K_H Z (k_wr P 144 a v) U h := k_wO (c := 7) (k := 4) t (by decide) (by decide) (by decide)
theorem kv7_5 {a : Nat} : k_V 7 a Z P U 5 = .int (P.1 145 a) := id rfl
theorem kw7_5 {a : Nat} {v : Int32} (t : Z.1 a = 8) : e_wr (K_H Z P U h) a (e_O 7 (va_up (k_V 7 a Z P U) 5 (.int v))) = K_H Z (k_wr P 145 a v) U h := k_wO (c := 7) (k := 5) t (by decide) (by decide) (by decide)
theorem kv7_6 {a : Nat} : k_V 7 a Z P U 6 = .int (P.1 146 a) := id rfl
theorem kw7_6 {a : Nat} {v : Int32} (t : Z.1 a = 8) : e_wr (K_H Z P U h) a (e_O 7 (va_up (k_V 7 a Z P U) 6 (.int v))) = K_H Z (k_wr P 146 a v) U h := k_wO (c := 7) (k := 6) t (by decide) (by decide) (by decide)
theorem kv7_7 {a : Nat} : k_V 7 a Z P U 7 = .int (P.1 147 a) := id rfl
theorem kw7_7 {a : Nat} {v : Int32} (t : Z.1 a = 8) : e_wr (K_H Z P U h) a (e_O 7 (va_up (k_V 7 a Z P U) 7 (.int v))) = K_H Z (k_wr P 147 a v) U h := k_wO (c := 7) (k := 7) t (by decide) (by decide) (by decide)
theorem kv7_8 {a : Nat} : k_V 7 a Z P U 8 = .int (P.1 148 a) := id rfl
theorem kw7_8 {a : Nat} {v : Int32} (t : Z.1 a = 8) : e_wr (K_H Z P U h) a (e_O 7 (va_up (k_V 7 a Z P U) 8 (.int v))) = K_H Z (k_wr P 148 a v) U h := k_wO (c := 7) (k := 8) t (by decide) (by decide) (by decide)
theorem kv7_9 {a : Nat} : k_V 7 a Z P U 9 = .int (P.1 149 a) := id rfl
theorem kw7_9 {a : Nat} {v : Int32} (t : Z.1 a = 8) : e_wr (K_H Z P U h) a (e_O 7 (va_up (k_V 7 a Z P U) 9 (.int v))) = K_H Z (k_wr P 149 a v) U h := k_wO (c := 7) (k := 9) t (by decide) (by decide) (by decide)
theorem kg8 {a : Nat} (t : Z.1 a = 9) {kk : (Nat → Value) → Prop} : e_gO (K_H Z P U h) a 8 kk = kk (k_V 8 a Z P U) := k_gO t (by decide) (by decide)
theorem ki8 {a : Nat} (t : Z.1 a = 9) : e_isC (K_H Z P U h) a 8 = True := k_isC t (by decide) (by decide)
theorem kv8_0 {a : Nat} : k_V 8 a Z P U 0 = .ref (a + 1) := id rfl
theorem kv8_1 {a : Nat} : k_V 8 a Z P U 1 = .int (P.1 161 a) := id rfl
theorem kw8_1 {a : Nat} {v : Int32} (t : Z.1 a = 9) : e_wr (K_H Z P U h) a (e_O 8 (va_up (k_V 8 a Z P U) 1 (.int v))) = K_H Z (k_wr P 161 a v) U h := k_wO (c := 8) (k := 1) t (by decide) (by decide) (by decide)
theorem kv8_2 {a : Nat} : k_V 8 a Z P U 2 = .ref (a + 2) := id rfl
theorem kg9 {a : Nat} (t : Z.1 a = 10) {kk : (Nat → Value) → Prop} : e_gO (K_H Z P U h) a 9 kk = kk (k_V 9 a Z P U) := k_gO t (by decide) (by decide)
theorem ki9 {a : Nat} (t : Z.1 a = 10) : e_isC (K_H Z P U h) a 9 = True := k_isC t (by decide) (by decide)
theorem kv9_0 {a : Nat} : k_V 9 a Z P U 0 = .int (P.1 180 a) := id rfl
theorem kw9_0 {a : Nat} {v : Int32} (t : Z.1 a = 10) : e_wr (K_H Z P U h) a (e_O 9 (va_up (k_V 9 a Z P U) 0 (.int v))) = K_H Z (k_wr P 180 a v) U h := k_wO (c := 9) (k := 0) t (by decide) (by decide) (by decide)
theorem kv9_1 {a : Nat} : k_V 9 a Z P U 1 = .ref (a + 1) := id rfl
theorem kv9_2 {a : Nat} : k_V 9 a Z P U 2 = .ref (a + 2) := id rfl
theorem kv9_3 {a : Nat} : k_V 9 a Z P U 3 = .int (P.1 183 a) := id rfl
theorem kw9_3 {a : Nat} {v : Int32} (t : Z.1 a = 10) : e_wr (K_H Z P U h) a (e_O 9 (va_up (k_V 9 a Z P U) 3 (.int v))) = K_H Z (k_wr P 183 a v) U h := k_wO (c := 9) (k := 3) t (by decide) (by decide) (by decide)
theorem kv9_4 {a : Nat} : k_V 9 a Z P U 4 = .ref (a + 3) := id rfl
theorem kv9_5 {a : Nat} : k_V 9 a Z P U 5 = .ref (a + 4) := id rfl
theorem kg10 {a : Nat} (t : Z.1 a = 11) {kk : (Nat → Value) → Prop} : e_gO (K_H Z P U h) a 10 kk = kk (k_V 10 a Z P U) := k_gO t (by decide) (by decide)
theorem ki10 {a : Nat} (t : Z.1 a = 11) : e_isC (K_H Z P U h) a 10 = True := k_isC t (by decide) (by decide)
theorem kv10_0 {a : Nat} : k_V 10 a Z P U 0 = .int (P.1 200 a) := id rfl
theorem kw10_0 {a : Nat} {v : Int32} (t : Z.1 a = 11) : e_wr (K_H Z P U h) a (e_O 10 (va_up (k_V 10 a Z P U) 0 (.int v))) = K_H Z (k_wr P 200 a v) U h := k_wO (c := 10) (k := 0) t (by decide) (by decide) (by decide)
theorem kv10_1 {a : Nat} : k_V 10 a Z P U 1 = .int (P.1 201 a) := id rfl
theorem kw10_1 {a : Nat} {v : Int32} (t : Z.1 a = 11) : e_wr (K_H Z P U h) a (e_O 10 (va_up (k_V 10 a Z P U) 1 (.int v))) = K_H Z (k_wr P 201 a v) U h := k_wO (c := 10) (k := 1) t (by decide) (by decide) (by decide)
theorem kv10_2 {a : Nat} : k_V 10 a Z P U 2 = .int (P.1 202 a) := id rfl
theorem kw10_2 {a : Nat} {v : Int32} (t : Z.1 a = 11) : e_wr (K_H Z P U h) a (e_O 10 (va_up (k_V 10 a Z P U) 2 (.int v))) = K_H Z (k_wr P 202 a v) U h := k_wO (c := 10) (k := 2) t (by decide) (by decide) (by decide)
theorem kv10_3 {a : Nat} : k_V 10 a Z P U 3 = .int (P.1 203 a) := id rfl
theorem kw10_3 {a : Nat} {v : Int32} (t : Z.1 a = 11) : e_wr (K_H Z P U h) a (e_O 10 (va_up (k_V 10 a Z P U) 3 (.int v))) = K_H Z (k_wr P 203 a v) U h := k_wO (c := 10) (k := 3) t (by decide) (by decide) (by decide)
theorem kv10_4 {a : Nat} : k_V 10 a Z P U 4 = .int (P.1 204 a) := id rfl
theorem kw10_4 {a : Nat} {v : Int32} (t : Z.1 a = 11) : e_wr (K_H Z P U h) a (e_O 10 (va_up (k_V 10 a Z P U) 4 (.int v))) = K_H Z (k_wr P 204 a v) U h := k_wO (c := 10) (k := 4) t (by decide) (by decide) (by decide)
theorem kv10_5 {a : Nat} : k_V 10 a Z P U 5 = .int (P.1 205 a) := id rfl
theorem kw10_5 {a : Nat} {v : Int32} (t : Z.1 a = 11) : e_wr (K_H Z P U h) a (e_O 10 (va_up (k_V 10 a Z P U) 5 (.int v))) = K_H Z (k_wr P 205 a v) U h := k_wO (c := 10) (k := 5) t (by decide) (by decide) (by decide)
theorem kv10_6 {a : Nat} : k_V 10 a Z P U 6 = .int (P.1 206 a) := id rfl
theorem kw10_6 {a : Nat} {v : Int32} (t : Z.1 a = 11) : e_wr (K_H Z P U h) a (e_O 10 (va_up (k_V 10 a Z P U) 6 (.int v))) = K_H Z (k_wr P 206 a v) U h := k_wO (c := 10) (k := 6) t (by decide) (by decide) (by decide)
theorem kg11 {a : Nat} (t : Z.1 a = 12) {kk : (Nat → Value) → Prop} : e_gO (K_H Z P U h) a 11 kk = kk (k_V 11 a Z P U) := k_gO t (by decide) (by decide)
theorem ki11 {a : Nat} (t : Z.1 a = 12) : e_isC (K_H Z P U h) a 11 = True := k_isC t (by decide) (by decide)
theorem kv11_0 {a : Nat} : k_V 11 a Z P U 0 = .int (P.1 220 a) := id rfl
theorem kw11_0 {a : Nat} {v : Int32} (t : Z.1 a = 12) : e_wr (K_H Z P U h) a (e_O 11 (va_up (k_V 11 a Z P U) 0 (.int v))) = K_H Z (k_wr P 220 a v) U h := k_wO (c := 11) (k := 0) t (by decide) (by decide) (by decide)
theorem kv11_1 {a : Nat} : k_V 11 a Z P U 1 = .int (P.1 221 a) := id rfl
theorem kw11_1 {a : Nat} {v : Int32} (t : Z.1 a = 12) : e_wr (K_H Z P U h) a (e_O 11 (va_up (k_V 11 a Z P U) 1 (.int v))) = K_H Z (k_wr P 221 a v) U h := k_wO (c := 11) (k := 1) t (by decide) (by decide) (by decide)
theorem kv11_2 {a : Nat} : k_V 11 a Z P U 2 = .int (P.1 222 a) := id rfl
theorem kw11_2 {a : Nat} {v : Int32} (t : Z.1 a = 12) : e_wr (K_H Z P U h) a (e_O 11 (va_up (k_V 11 a Z P U) 2 (.int v))) = K_H Z (k_wr P 222 a v) U h := k_wO (c := 11) (k := 2) t (by decide) (by decide) (by decide)
theorem kv11_3 {a : Nat} : k_V 11 a Z P U 3 = .int (P.1 223 a) := id rfl
theorem kw11_3 {a : Nat} {v : Int32} (t : Z.1 a = 12) : e_wr (K_H Z P U h) a (e_O 11 (va_up (k_V 11 a Z P U) 3 (.int v))) = K_H Z (k_wr P 223 a v) U h := k_wO (c := 11) (k := 3) t (by decide) (by decide) (by decide)
theorem kv11_4 {a : Nat} : k_V 11 a Z P U 4 = .ref (a + 1) := id rfl
theorem kg12 {a : Nat} (t : Z.1 a = 13) {kk : (Nat → Value) → Prop} : e_gO (K_H Z P U h) a 12 kk = kk (k_V 12 a Z P U) := k_gO t (by decide) (by decide)
theorem ki12 {a : Nat} (t : Z.1 a = 13) : e_isC (K_H Z P U h) a 12 = True := k_isC t (by decide) (by decide)
theorem kv12_0 {a : Nat} : k_V 12 a Z P U 0 = .ref (a + 1) := id rfl
theorem kv12_1 {a : Nat} : k_V 12 a Z P U 1 = .ref (a + 5) := id rfl
theorem kv12_2 {a : Nat} : k_V 12 a Z P U 2 = .ref (a + 9) := id rfl
theorem kv12_3 {a : Nat} : k_V 12 a Z P U 3 = .ref (a + 13) := id rfl
theorem kv12_4 {a : Nat} : k_V 12 a Z P U 4 = .ref (a + 14) := id rfl
theorem kv12_5 {a : Nat} : k_V 12 a Z P U 5 = .ref (a + 15) := id rfl
theorem kv12_6 {a : Nat} : k_V 12 a Z P U 6 = .ref (a + 16) := id rfl
theorem kv12_7 {a : Nat} : k_V 12 a Z P U 7 = .ref (a + 17) := id rfl
theorem kv12_8 {a : Nat} : k_V 12 a Z P U 8 = .ref (a + 19) := id rfl
theorem kv12_9 {a : Nat} : k_V 12 a Z P U 9 = .ref (a + 25) := id rfl
theorem kv12_10 {a : Nat} : k_V 12 a Z P U 10 = .int (P.1 250 a) := id rfl
theorem kw12_10 {a : Nat} {v : Int32} (t : Z.1 a = 13) : e_wr (K_H Z P U h) a (e_O 12 (va_up (k_V 12 a Z P U) 10 (.int v))) = K_H Z (k_wr P 250 a v) U h := k_wO (c := 12) (k := 10) t (by decide) (by decide) (by decide)
theorem kv12_11 {a : Nat} : k_V 12 a Z P U 11 = .int (P.1 251 a) := id rfl
theorem kw12_11 {a : Nat} {v : Int32} (t : Z.1 a = 13) : e_wr (K_H Z P U h) a (e_O 12 (va_up (k_V 12 a Z P U) 11 (.int v))) = K_H Z (k_wr P 251 a v) U h := k_wO (c := 12) (k := 11) t (by decide) (by decide) (by decide)
theorem kiL30 {a : Nat} (t : Z.1 a = 30) : e_isC (K_H Z P U h) a 0 = True := k_isL ⟨by omega, by omega⟩
theorem kiL31 {a : Nat} (t : Z.1 a = 31) : e_isC (K_H Z P U h) a 0 = True := k_isL ⟨by omega, by omega⟩
theorem kiL32 {a : Nat} (t : Z.1 a = 32) : e_isC (K_H Z P U h) a 0 = True := k_isL ⟨by omega, by omega⟩
theorem kgI5 {a : Nat} (t : Z.1 a = 105) {kk : Nat → (Nat → Int32) → Prop} : e_gI (K_H Z P U h) a 0 kk = kk 5 (P.2 a) := k_gI (n := 5) t
theorem kwI5 {a : Nat} {f : Nat → Int32} (t : Z.1 a = 105) : e_wr (K_H Z P U h) a (e_I 0 5 f) = K_H Z (k_wa P a f) U h := k_wI (n := 5) t
theorem kgI8 {a : Nat} (t : Z.1 a = 108) {kk : Nat → (Nat → Int32) → Prop} : e_gI (K_H Z P U h) a 0 kk = kk 8 (P.2 a) := k_gI (n := 8) t
theorem kwI8 {a : Nat} {f : Nat → Int32} (t : Z.1 a = 108) : e_wr (K_H Z P U h) a (e_I 0 8 f) = K_H Z (k_wa P a f) U h := k_wI (n := 8) t
theorem kgI12 {a : Nat} (t : Z.1 a = 112) {kk : Nat → (Nat → Int32) → Prop} : e_gI (K_H Z P U h) a 0 kk = kk 12 (P.2 a) := k_gI (n := 12) t
theorem kwI12 {a : Nat} {f : Nat → Int32} (t : Z.1 a = 112) : e_wr (K_H Z P U h) a (e_I 0 12 f) = K_H Z (k_wa P a f) U h := k_wI (n := 12) t
theorem kgI16 {a : Nat} (t : Z.1 a = 116) {kk : Nat → (Nat → Int32) → Prop} : e_gI (K_H Z P U h) a 0 kk = kk 16 (P.2 a) := k_gI (n := 16) t
theorem kwI16 {a : Nat} {f : Nat → Int32} (t : Z.1 a = 116) : e_wr (K_H Z P U h) a (e_I 0 16 f) = K_H Z (k_wa P a f) U h := k_wI (n := 16) t
theorem kl5 {a : Nat} (t : Z.1 a = 105) {kk : Nat → Prop} : e_gl (K_H Z P U h) a kk = kk 5 := by (unfold e_gl; rw [k_atI (n := 5) t]; exact propext ⟨fun q => q.2, fun q => ⟨Nat.zero_lt_succ 1, q⟩⟩)
theorem kl8 {a : Nat} (t : Z.1 a = 108) {kk : Nat → Prop} : e_gl (K_H Z P U h) a kk = kk 8 := by (unfold e_gl; rw [k_atI (n := 8) t]; exact propext ⟨fun q => q.2, fun q => ⟨Nat.zero_lt_succ 1, q⟩⟩)
theorem kl12 {a : Nat} (t : Z.1 a = 112) {kk : Nat → Prop} : e_gl (K_H Z P U h) a kk = kk 12 := by (unfold e_gl; rw [k_atI (n := 12) t]; exact propext ⟨fun q => q.2, fun q => ⟨Nat.zero_lt_succ 1, q⟩⟩)
theorem kl16 {a : Nat} (t : Z.1 a = 116) {kk : Nat → Prop} : e_gl (K_H Z P U h) a kk = kk 16 := by (unfold e_gl; rw [k_atI (n := 16) t]; exact propext ⟨fun q => q.2, fun q => ⟨Nat.zero_lt_succ 1, q⟩⟩)
theorem kl20 {a : Nat} (t : Z.1 a = 20) {kk : Nat → Prop} : e_gl (K_H Z P U h) a kk = kk 40 := by (unfold e_gl; rw [k_atR2 t]; exact propext ⟨fun q => q.2, fun q => ⟨Or.inl rfl, q⟩⟩)
theorem kl21 {a : Nat} (t : Z.1 a = 21) {kk : Nat → Prop} : e_gl (K_H Z P U h) a kk = kk 40 := by (unfold e_gl; rw [k_atR3 t]; exact propext ⟨fun q => q.2, fun q => ⟨Or.inr rfl, q⟩⟩)
theorem of_5 : Int32.ofNat 5 = 5 := by decide
theorem of_8 : Int32.ofNat 8 = 8 := by decide
theorem of_12 : Int32.ofNat 12 = 12 := by decide
theorem of_16 : Int32.ofNat 16 = 16 := by decide
theorem of_40 : Int32.ofNat 40 = 40 := by decide
theorem k_rs {f a : Nat} {v : Int32} : (k_wr P f a v).1 f a = v := by simp [k_wr, va_up]
theorem k_rn {f f' a a' : Nat} {v : Int32} (n : f' ≠ f) : (k_wr P f a v).1 f' a' = P.1 f' a' := by simp [k_wr, va_up, n]
theorem k_ra {f a a' : Nat} {v : Int32} (n : a' ≠ a) : (k_wr P f a v).1 f a' = P.1 f a' := by simp [k_wr, va_up, n]
theorem k_r2 {f a : Nat} {v : Int32} : (k_wr P f a v).2 = P.2 := id rfl
theorem k_as {a : Nat} {v : Nat → Int32} : (k_wa P a v).2 a = v := by simp [k_wa, va_up]
theorem k_an {a a' : Nat} {v : Nat → Int32} (n : a' ≠ a) : (k_wa P a v).2 a' = P.2 a' := by simp [k_wa, va_up, n]
theorem k_a1 {a : Nat} {v : Nat → Int32} : (k_wa P a v).1 = P.1 := id rfl
theorem k_ws {a : Nat} {w : Option Nat} : (k_ww U a w).1 a = w := by simp [k_ww, va_up]
theorem k_wn {a a' : Nat} {w : Option Nat} (n : a' ≠ a) : (k_ww U a w).1 a' = U.1 a' := by simp [k_ww, va_up, n]
theorem k_w2 {a : Nat} {w : Option Nat} : (k_ww U a w).2 = U.2 := id rfl
theorem k_ls {a : Nat} {l : List Nat} : (k_wl U a l).2.1 a = l := by simp [k_wl, va_up]
theorem k_ln {a a' : Nat} {l : List Nat} (n : a' ≠ a) : (k_wl U a l).2.1 a' = U.2.1 a' := by simp [k_wl, va_up, n]
theorem k_l1 {a : Nat} {l : List Nat} : (k_wl U a l).1 = U.1 := id rfl
theorem k_l2 {a : Nat} {l : List Nat} : (k_wl U a l).2.2 = U.2.2 := id rfl
theorem k_xs {a : Nat} {f : Nat → Option Nat} : (k_wx U a f).2.2 a = f := by simp [k_wx, va_up]
theorem k_xn {a a' : Nat} {f : Nat → Option Nat} (n : a' ≠ a) : (k_wx U a f).2.2 a' = U.2.2 a' := by simp [k_wx, va_up, n]
theorem k_x1 {a : Nat} {f : Nat → Option Nat} : (k_wx U a f).1 = U.1 := id rfl
theorem k_x2 {a : Nat} {f : Nat → Option Nat} : (k_wx U a f).2.1 = U.2.1 := id rfl
theorem k_rfs {x : Nat} : va_rf (some x) = .ref x := id rfl
theorem k_rfn : va_rf none = .null := id rfl
end KS
