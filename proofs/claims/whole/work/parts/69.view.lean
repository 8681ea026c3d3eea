/-! the reference's locks and waits as lists -/
abbrev v_LT : Type := Int32 × Int32 × Int32 × Int32 × Int32 × Int32 × Int32
abbrev v_WT : Type := Int32 × Int32 × Int32 × Int32 × Int32 × Int32
def v_k (A : Nat → Nat → Int32) (k : Nat) : v_LT := (A 73 k, A 74 k, A 75 k, A 76 k, A 77 k, A 78 k, A 79 k)
def v_w (A : Nat → Nat → Int32) (k : Nat) : v_WT := (A 81 k, A 82 k, A 83 k, A 84 k, A 85 k, A 86 k)
def v_L (n : Nat) (A : Nat → Nat → Int32) : List v_LT := (List.range n).map (v_k A)
def v_W (n : Nat) (A : Nat → Nat → Int32) : List v_WT := (List.range n).map (v_w A)
theorem v_Lg {n i : Nat} {A : Nat → Nat → Int32} : (v_L n A)[i]? = if i < n then some (v_k A i) else none := by
  unfold v_L
  by_cases h : i < n
  · rw [if_pos h, List.getElem?_map, List.getElem?_eq_getElem (by simpa using h)]
    simp
  · rw [if_neg h, List.getElem?_eq_none (by simpa using h)]
theorem v_Wg {n i : Nat} {A : Nat → Nat → Int32} : (v_W n A)[i]? = if i < n then some (v_w A i) else none := by
  unfold v_W
  by_cases h : i < n
  · rw [if_pos h, List.getElem?_map, List.getElem?_eq_getElem (by simpa using h)]
    simp
  · rw [if_neg h, List.getElem?_eq_none (by simpa using h)]
theorem v_mv {f t k : Nat} {A : Nat → Nat → Int32} : v_k (y_mvL f t A) k = if k = t then v_k A f else v_k A k := by
  unfold v_k y_mvL
  by_cases e : k = t
  · subst e
    simp [va_up]
  · simp [va_up, e]
theorem v_mw {f t k : Nat} {A : Nat → Nat → Int32} : v_w (y_mvW f t A) k = if k = t then v_w A f else v_w A k := by
  unfold v_w y_mvW
  by_cases e : k = t
  · subst e
    simp [va_up]
  · simp [va_up, e]
def v_go (t v : Int32) (x : v_LT) : Bool := x.1 == t && (v == -1 || (v == -2 && x.2.2.2.2.2.2 != 0) || x.2.2.2.2.2.1 == v)
theorem v_dl {t v : Int32} : ∀ (f k left : Nat) (A : Nat → Nat → Int32), left ≤ k → v_L (y_dl t v k left f A).1 (y_dl t v k left f A).2 = v_L left A ++ ((List.range' k f).map (v_k A)).filter (fun x => !v_go t v x)
  | 0, k, left, A, _ => by simp [y_dl]
  | f + 1, k, left, A, h => by
    have hg : y_goes t v k A = v_go t v (v_k A k) := rfl
    rw [y_dl, List.range'_succ, List.map_cons]
    by_cases c : v_go t v (v_k A k) = true
    · rw [if_pos (by rw [hg]; exact c), List.filter_cons_of_neg (by simp [c]), v_dl f (k + 1) left A (by omega)]
    · rw [if_neg (by rw [hg]; exact c), List.filter_cons_of_pos (by simp [c]), v_dl f (k + 1) (left + 1) _ (by omega)]
      have e1 : v_L (left + 1) (y_mvL k left A) = v_L left A ++ [v_k A k] := by
        unfold v_L
        rw [List.range_succ, List.map_append]
        congr 1
        · refine List.map_congr_left (fun j hj => ?_)
          rw [v_mv, if_neg (by have := List.mem_range.mp hj; omega)]
        · simp only [List.map_cons, List.map_nil, v_mv, if_pos]
      have e2 : (List.range' (k + 1) f).map (v_k (y_mvL k left A)) = (List.range' (k + 1) f).map (v_k A) := List.map_congr_left (fun j hj => by
        rw [v_mv, if_neg (by have := List.mem_range'_1.mp hj; omega)])
      rw [e1, e2, List.append_assoc]
      rfl
theorem v_drop {t v : Int32} {n : Nat} {A : Nat → Nat → Int32} : v_L (y_dl t v 0 0 n A).1 (y_dl t v 0 0 n A).2 = (v_L n A).filter (fun x => !v_go t v x) := by
  rw [v_dl n 0 0 A (Nat.le_refl _)]
  unfold v_L
  simp [List.range_eq_range']
theorem v_Ll {n : Nat} {A : Nat → Nat → Int32} : (v_L n A).length = n := by simp [v_L]
theorem v_Wl {n : Nat} {A : Nat → Nat → Int32} : (v_W n A).length = n := by simp [v_W]
theorem v_dn {t v : Int32} {n : Nat} {A : Nat → Nat → Int32} : (y_dl t v 0 0 n A).1 = ((v_L n A).filter (fun x => !v_go t v x)).length := by
  rw [← v_drop, v_Ll]
theorem v_gr {t n : Nat} {o w k a : Int32} {S : m_S} : v_L (n + 1) (y_gr t o w k a n S).2 = v_L n S.2 ++ [(nI t, o, w, k, a, S.2 51 t, 1)] := by
  unfold v_L
  rw [List.range_succ, List.map_append]
  congr 1
  · refine List.map_congr_left (fun j hj => ?_)
    have := List.mem_range.mp hj
    have e : j ≠ n := by omega
    simp [v_k, y_gr, va_up, e]
  · simp [v_k, y_gr, va_up]
theorem v_dwR : ∀ (m k : Nat) (A : Nat → Nat → Int32) (j : Nat), 0 < k → v_w (y_dwR k m A) j = if k - 1 ≤ j ∧ j < k - 1 + m then v_w A (j + 1) else v_w A j
  | 0, k, A, j, hk => by
    rw [y_dwR, if_neg (by omega)]
  | m + 1, k, A, j, hk => by
    rw [y_dwR, v_dwR m (k + 1) _ j (by omega), v_mw, v_mw]
    by_cases c1 : k ≤ j ∧ j < k + m
    · rw [if_pos (by omega), if_neg (by omega), if_pos (by omega)]
    · rw [if_neg (by omega)]
      by_cases c2 : j = k - 1
      · rw [if_pos c2, if_pos (by omega)]
        rw [show j + 1 = k by omega]
      · rw [if_neg c2, if_neg (by omega)]
theorem v_dropW {i n : Nat} {S : m_S} (hi : i < n) : v_W (n - 1) (y_dropW i n S).2 = (v_W n S.2).eraseIdx i := by
  apply List.ext_getElem?
  intro j
  rw [v_Wg, List.getElem?_eraseIdx, v_Wg, v_Wg]
  have e : v_w (y_dropW i n S).2 j = if i ≤ j ∧ j < i + (n - 1 - i) then v_w S.2 (j + 1) else v_w S.2 j := by
    unfold y_dropW
    rw [v_dwR _ _ _ _ (by omega), Nat.add_sub_cancel]
  rw [e]
  by_cases c1 : j < i
  · rw [if_pos (by omega), if_neg (by omega), if_pos c1, if_pos (by omega)]
  · rw [if_neg c1]
    by_cases c2 : j < n - 1
    · rw [if_pos c2, if_pos (by omega), if_pos (by omega)]
    · rw [if_neg c2, if_neg (by omega)]
theorem v_wu {s : Nat} : ∀ (m : Nat) (A : Nat → Nat → Int32) (j : Nat), v_w (y_wu s m A) j = if s < j ∧ j ≤ s + m then v_w A (j - 1) else v_w A j
  | 0, A, j => by rw [y_wu, if_neg (by omega)]
  | m + 1, A, j => by
    rw [y_wu, v_wu m _ j, v_mw, v_mw]
    by_cases c1 : s < j ∧ j ≤ s + m
    · rw [if_pos c1, if_neg (by omega), if_pos (by omega)]
    · rw [if_neg c1]
      by_cases c2 : j = s + m + 1
      · rw [if_pos c2, if_pos (by omega), c2]
        rfl
      · rw [if_neg c2, if_neg (by omega)]
theorem v_wH {t k s n : Nat} {b : Bool} {S : m_S} (hs : s ≤ n) : v_W (n + 1) (y_wH t k s b n S).2 = (v_W n S.2).take s ++ (nI t, S.2 88 k, S.2 89 k, S.2 90 k, S.2 91 k, b_v b) :: (v_W n S.2).drop s := by
  have e : ∀ j, v_w (y_wH t k s b n S).2 j = if j = s then (nI t, S.2 88 k, S.2 89 k, S.2 90 k, S.2 91 k, b_v b) else v_w (y_wu s (n - s) S.2) j := fun j => by
    by_cases c : j = s
    · subst c
      simp [v_w, y_wH, va_up]
    · simp [v_w, y_wH, va_up, c]
  apply List.ext_getElem?
  intro j
  rw [v_Wg, e, v_wu]
  by_cases c1 : j < s
  · rw [List.getElem?_append_left (by rw [List.length_take, v_Wl]; omega), List.getElem?_take_of_lt c1, v_Wg, if_pos (by omega), if_neg (by omega), if_neg (by omega), if_pos (by omega)]
  · rw [List.getElem?_append_right (by rw [List.length_take, v_Wl]; omega), List.length_take, v_Wl, Nat.min_eq_left hs]
    by_cases c2 : j = s
    · subst c2
      rw [if_pos (by omega), if_pos rfl, Nat.sub_self]
      rfl
    · rw [if_neg c2, show j - s = (j - s - 1) + 1 by omega, List.getElem?_cons_succ, List.getElem?_drop, v_Wg, show s + (j - s - 1) = j - 1 by omega]
      by_cases c3 : j < n + 1
      · rw [if_pos c3, if_pos (by omega), if_pos (by omega)]
      · rw [if_neg c3, if_neg (by omega)]
theorem v_any {p : Nat → Bool} : ∀ n i, y_any p i n = (List.range' i n).any p
  | 0, i => rfl
  | n + 1, i => by
    rw [List.range'_succ, List.any_cons, ← v_any n (i + 1)]
    rfl
theorem v_anyL {p : Nat → Bool} {f : v_LT → Bool} {n : Nat} {A : Nat → Nat → Int32} (h : ∀ i, p i = f (v_k A i)) : y_any p 0 n = (v_L n A).any f := by
  rw [v_any, v_L, List.any_map, List.range_eq_range']
  congr 1
  funext i
  exact h i
theorem v_anyW {p : Nat → Bool} {f : v_WT → Bool} {n m : Nat} {A : Nat → Nat → Int32} (h : ∀ i, p i = f (v_w A i)) (hm : m ≤ n) : y_any p 0 m = ((v_W n A).take m).any f := by
  rw [v_any, v_W, ← List.map_take, List.any_map, List.take_range, Nat.min_eq_left hm, List.range_eq_range']
  congr 1
  funext i
  exact h i
/-- of one object -/
def v_LO (o : Int32) (l : List v_LT) : List v_LT := l.filter (fun x => x.2.1 == o)
def v_WO (o : Int32) (l : List v_WT) : List v_WT := l.filter (fun x => x.2.1 == o)
def v_ag (s : Int32) (t w k a : Int32) (x : v_LT) : Bool := x.1 != t && y_cf s w k a x.2.2.1 x.2.2.2.1 x.2.2.2.2.1
def v_agW (s : Int32) (t w k a : Int32) (x : v_WT) : Bool := x.1 != t && y_cf s w k a x.2.2.1 x.2.2.2.1 x.2.2.2.2.1
theorem v_agH {t : Int32} {o n : Nat} {w k a : Int32} {A : Nat → Nat → Int32} : y_any (p_agH t o w k a A) 0 n = (v_LO (nI o) (v_L n A)).any (v_ag (A 4 o) t w k a) := by
  rw [v_LO, List.any_filter, v_anyL (f := fun x => x.2.1 == nI o && v_ag (A 4 o) t w k a x)]
  intro i
  simp only [p_agH, v_k, v_ag, Bool.and_assoc]
theorem v_agQ {t : Int32} {o n m : Nat} {w k a : Int32} {A : Nat → Nat → Int32} (hm : m ≤ n) : y_any (p_agW t o w k a A) 0 m = (v_WO (nI o) ((v_W n A).take m)).any (v_agW (A 4 o) t w k a) := by
  rw [v_WO, List.any_filter, v_anyW (f := fun x => x.2.1 == nI o && v_agW (A 4 o) t w k a x) _ hm]
  intro i
  simp only [p_agW, v_w, v_agW, Bool.and_assoc]
theorem v_hA {t : Int32} {o : Int32} {n : Nat} {A : Nat → Nat → Int32} : y_any (p_hA t o A) 0 n = (v_LO o (v_L n A)).any (fun x => x.1 == t) := by
  rw [v_LO, List.any_filter, v_anyL (f := fun x => x.2.1 == o && x.1 == t)]
  intro i
  simp only [p_hA, v_k, Bool.and_comm]
def v_hf (t w k a : Int32) (x : v_LT) : Bool := x.1 == t && (x.2.2.1 == w && (w != 4 || (x.2.2.2.1 == k && x.2.2.2.2.1 == a)))
theorem v_h {t : Int32} {o : Int32} {n : Nat} {w k a : Int32} {A : Nat → Nat → Int32} : y_any (p_h t o w k a A) 0 n = (v_LO o (v_L n A)).any (v_hf t w k a) := by
  rw [v_LO, List.any_filter, v_anyL (f := fun x => x.2.1 == o && v_hf t w k a x)]
  intro i
  simp only [p_h, v_k, v_hf]
  cases A 73 i == t <;> cases A 74 i == o <;> simp
/-- the first of an object that is not ahead -/
theorem v_stR {o : Int32} {A : Nat → Nat → Int32} : ∀ (k i : Nat), k ≤ i → (∀ j, k ≤ j → j < i → ¬ (A 82 j = o ∧ A 86 j = 0)) → (y_stR o A k i ≤ i ∧ (y_stR o A k i = i ∨ (y_stR o A k i < k ∧ A 82 (y_stR o A k i) = o ∧ A 86 (y_stR o A k i) = 0)) ∧ ∀ j, j < y_stR o A k i → j < k → ¬ (A 82 j = o ∧ A 86 j = 0))
  | 0, i, h, _ => by
    rw [y_stR]
    exact ⟨Nat.le_refl _, Or.inl rfl, fun j _ h2 => by omega⟩
  | k + 1, i, h, hn => by
    rw [y_stR]
    by_cases c : A 82 k = o ∧ A 86 k = 0
    · rw [if_pos c]
      obtain ⟨a, b, d⟩ := v_stR k k (Nat.le_refl _) (fun j h1 h2 => by omega)
      refine ⟨by omega, ?_, fun j h1 h2 => d j h1 (by omega)⟩
      rcases b with b | b
      · rw [b]; exact Or.inr ⟨by omega, c⟩
      · exact Or.inr ⟨by omega, b.2⟩
    · rw [if_neg c]
      obtain ⟨a, b, d⟩ := v_stR k i (by omega) (fun j h1 h2 => by
        by_cases e : j = k
        · subst e; exact c
        · exact hn j (by omega) h2)
      refine ⟨a, ?_, fun j h1 h2 => ?_⟩
      · rcases b with b | b
        · exact Or.inl b
        · exact Or.inr ⟨by omega, b.2⟩
      · by_cases e : j = k
        · subst e; exact c
        · exact d j h1 (by omega)
