/-! what the reference's steps do to the lists, and what they leave -/
section RP
variable {S S' : m_S} {A A' : m_A} {t n l i nw nl nr k : Nat}
theorem v_dwL : ∀ (k nw : Nat) (S : m_S), k ≤ nw → nw ≤ 13 → S.1 80 = nI nw → ∃ nw', nw' ≤ nw ∧ (y_dwL t k S).1 80 = nI nw' ∧ v_W nw' (y_dwL t k S).2 = ((v_W nw S.2).take k).filter (fun x => x.1 != nI t) ++ (v_W nw S.2).drop k
  | 0, nw, S, _, _, e => ⟨nw, Nat.le_refl _, e, by simp [y_dwL]⟩
  | k + 1, nw, S, hk, hn, e => by
    have hg : (v_W nw S.2)[k]? = some (v_w S.2 k) := by rw [v_Wg, if_pos (by omega)]
    have hl : k < (v_W nw S.2).length := by rw [v_Wl]; omega
    have hge : (v_W nw S.2)[k] = v_w S.2 k := (List.getElem?_eq_some_iff.mp hg).2
    have tk : (v_W nw S.2).take (k + 1) = (v_W nw S.2).take k ++ [v_w S.2 k] := by rw [List.take_succ_eq_append_getElem hl, hge]
    have dk : (v_W nw S.2).drop k = v_w S.2 k :: (v_W nw S.2).drop (k + 1) := by rw [List.drop_eq_getElem_cons hl, hge]
    rw [y_dwL]
    by_cases c : S.2 81 k = nI t
    · rw [if_pos c, e, i_cl (by omega)]
      have e1 : (y_dropW k nw S).1 80 = nI (nw - 1) := by unfold y_dropW; dsimp only; rw [up_s]
      obtain ⟨nw', h1, h2, h3⟩ := v_dwL k (nw - 1) (y_dropW k nw S) (by omega) (by omega) e1
      refine ⟨nw', by omega, h2, ?_⟩
      rw [h3, v_dropW (by omega), tk, List.filter_append]
      have f0 : List.filter (fun x : v_WT => x.1 != nI t) [v_w S.2 k] = [] := by
        rw [List.filter_cons_of_neg]
        · rfl
        · simp only [v_w, c, bne_self_eq_false]; decide
      rw [f0, List.append_nil]
      congr 1
      · rw [List.eraseIdx_eq_take_drop_succ, List.take_append_of_le_length (by rw [List.length_take, Nat.min_eq_left (by omega)]; exact Nat.le_refl _), List.take_take, Nat.min_self]
      · rw [List.eraseIdx_eq_take_drop_succ, List.drop_append, List.length_take, Nat.min_eq_left (by omega), Nat.sub_self, List.drop_zero, List.drop_eq_nil_of_le (by rw [List.length_take]; omega), List.nil_append]
    · rw [if_neg c]
      obtain ⟨nw', h1, h2, h3⟩ := v_dwL k nw S (by omega) hn e
      refine ⟨nw', h1, h2, ?_⟩
      rw [h3, tk, List.filter_append, dk, List.append_assoc]
      have f0 : List.filter (fun x : v_WT => x.1 != nI t) [v_w S.2 k] = [v_w S.2 k] := by
        rw [List.filter_cons_of_pos]
        · rfl
        · simp only [v_w]; rw [bne_iff_ne]; exact c
      rw [f0]
      rfl
theorem v_dwL' (e : S.1 80 = nI nw) (hn : nw ≤ 13) : ∃ nw', nw' ≤ nw ∧ (y_dwL t nw S).1 80 = nI nw' ∧ v_W nw' (y_dwL t nw S).2 = (v_W nw S.2).filter (fun x => x.1 != nI t) := by
  obtain ⟨nw', h1, h2, h3⟩ := v_dwL (t := t) nw nw S (Nat.le_refl _) hn e
  refine ⟨nw', h1, h2, ?_⟩
  rw [h3, List.take_of_length_le (by rw [v_Wl]; exact Nat.le_refl _), List.drop_eq_nil_of_le (by rw [v_Wl]; exact Nat.le_refl _), List.append_nil]
def fp_W : List Nat := [81, 82, 83, 84, 85, 86]
def fp_L : List Nat := [73, 74, 75, 76, 77, 78, 79]
def fp_R : List Nat := [17, 18, 19, 20, 21, 22, 23, 24]
theorem nmem {f k : Nat} {l : List Nat} (h : f ∉ l) (hk : k ∈ l) : f ≠ k := fun e => h (e ▸ hk)
theorem ymvW_A {f x y : Nat} (h : f ∉ fp_W) : y_mvW x y A f = A f := by
  unfold y_mvW
  rw [up_n (nmem h (by decide)), up_n (nmem h (by decide)), up_n (nmem h (by decide)), up_n (nmem h (by decide)), up_n (nmem h (by decide)), up_n (nmem h (by decide))]
theorem ydwR_A {f : Nat} (h : f ∉ fp_W) : ∀ (m k : Nat) (A : m_A), y_dwR k m A f = A f
  | 0, _, _ => rfl
  | m + 1, k, A => by rw [y_dwR, ydwR_A h m, ymvW_A h]
theorem ydwL_A {f : Nat} (h : f ∉ fp_W) : ∀ (k : Nat) (S : m_S), (y_dwL t k S).2 f = S.2 f
  | 0, _ => rfl
  | k + 1, S => by
    rw [y_dwL, ydwL_A h k]
    split
    · unfold y_dropW; dsimp only; exact ydwR_A h _ _ _
    · rfl
theorem ydwL_F {f : Nat} (h : f ≠ 80) : ∀ (k : Nat) (S : m_S), (y_dwL t k S).1 f = S.1 f
  | 0, _ => rfl
  | k + 1, S => by
    rw [y_dwL, ydwL_F h k]
    split
    · unfold y_dropW; dsimp only; rw [up_n h]
    · rfl
theorem ymvL_A {f x y : Nat} (h : f ∉ fp_L) : y_mvL x y A f = A f := by
  unfold y_mvL
  rw [up_n (nmem h (by decide)), up_n (nmem h (by decide)), up_n (nmem h (by decide)), up_n (nmem h (by decide)), up_n (nmem h (by decide)), up_n (nmem h (by decide)), up_n (nmem h (by decide))]
theorem ydl_A {f : Nat} {u v : Int32} (h : f ∉ fp_L) : ∀ (m k left : Nat) (A : m_A), (y_dl u v k left m A).2 f = A f
  | 0, _, _, _ => rfl
  | m + 1, k, left, A => by
    rw [y_dl]
    split
    · exact ydl_A h m _ _ _
    · rw [ydl_A h m, ymvL_A h]
theorem yd_A {f : Nat} {u v : Int32} (h : f ∉ fp_L) : (y_drop u v n S).2 f = S.2 f := ydl_A h _ _ _ _
theorem yd_F {f : Nat} {u v : Int32} (h : f ≠ 72) : (y_drop u v n S).1 f = S.1 f := by unfold y_drop; dsimp only; rw [up_n h]
theorem v_yd {u v : Int32} : ∃ nl', nl' ≤ nl ∧ (y_drop u v nl S).1 72 = nI nl' ∧ v_L nl' (y_drop u v nl S).2 = (v_L nl S.2).filter (fun x => !v_go u v x) := by
  refine ⟨((v_L nl S.2).filter (fun x => !v_go u v x)).length, ?_, ?_, ?_⟩
  · have := List.length_filter_le (fun x => !v_go u v x) (v_L nl S.2)
    rw [v_Ll] at this
    exact this
  · unfold y_drop; dsimp only; rw [up_s, v_dn]
  · have := v_drop (t := u) (v := v) (n := nl) (A := S.2)
    rw [v_dn] at this
    exact this
theorem yput_A {f : Nat} {w u o kk a b c d : Int32} (h : f ∉ fp_R) : (y_put w u o kk a b c d S).2 f = S.2 f := by
  unfold y_put
  dsimp only
  rw [up_n (nmem h (by decide)), up_n (nmem h (by decide)), up_n (nmem h (by decide)), up_n (nmem h (by decide)), up_n (nmem h (by decide)), up_n (nmem h (by decide)), up_n (nmem h (by decide)), up_n (nmem h (by decide))]
theorem yput_F {f : Nat} {w u o kk a b c d : Int32} (h : f ≠ 13) : (y_put w u o kk a b c d S).1 f = S.1 f := by
  unfold y_put; dsimp only; rw [up_n h]
theorem yput_r {w u o kk a b c d : Int32} (h : S.1 13 = nI nr) : (y_put w u o kk a b c d S).1 13 = nI (nr + 1) := by
  unfold y_put; dsimp only; rw [up_s, h, i_a1]
theorem v_lvg {i : Nat} : (v_lv l A)[i]? = if i < l then some (A 46 i).toNatClampNeg else none := by
  unfold v_lv
  by_cases h : i < l
  · rw [if_pos h, List.getElem?_map, List.getElem?_eq_getElem (by simpa using h)]
    simp
  · rw [if_neg h, List.getElem?_eq_none (by simpa using h)]
theorem v_lvl : (v_lv l A).length = l := by simp [v_lv]
theorem v_leave (hi : i < l) : v_lv (l - 1) (y_leave i l S).2 = (v_lv l S.2).eraseIdx i := by
  apply List.ext_getElem?
  intro j
  rw [v_lvg, List.getElem?_eraseIdx, v_lvg, v_lvg]
  have e : (y_leave i l S).2 46 j = if i ≤ j ∧ j < i + (l - 1 - i) then S.2 46 (i + 1 + (j - i)) else S.2 46 j := by
    unfold y_leave; dsimp only; rw [up_s]; rfl
  rw [e]
  by_cases c1 : j < i
  · rw [if_pos (by omega), if_neg (by omega), if_pos c1, if_pos (by omega)]
  · rw [if_neg c1]
    by_cases c2 : j < l - 1
    · rw [if_pos c2, if_pos (by omega), if_pos (by omega), show i + 1 + (j - i) = j + 1 by omega]
    · rw [if_neg c2, if_neg (by omega)]
theorem yl_A {f : Nat} (h : f ≠ 46) : (y_leave i l S).2 f = S.2 f := by unfold y_leave; dsimp only; rw [up_n h]
theorem yl_F {f : Nat} (h : f ≠ 45) : (y_leave i l S).1 f = S.1 f := by unfold y_leave; dsimp only; rw [up_n h]
/-- flags stay flags -/
theorem ah_mvW {x y : Nat} (h : w_ah 13 A) (hx : x < 13) : w_ah 13 (y_mvW x y A) := fun k hk => by
  have e : (y_mvW x y A) 86 = va_up (A 86) y (A 86 x) := by unfold y_mvW; rw [up_s]
  rw [e]
  by_cases c : k = y
  · subst c; rw [up_s]; exact h x hx
  · rw [up_n c]; exact h k hk
theorem ah_dwR : ∀ (m k : Nat) (A : m_A), w_ah 13 A → k + m ≤ 13 → w_ah 13 (y_dwR k m A)
  | 0, _, _, h, _ => h
  | m + 1, k, A, h, hk => ah_dwR m (k + 1) _ (ah_mvW h (by omega)) (by omega)
theorem ah_dwL : ∀ (k nw : Nat) (S : m_S), k ≤ nw → nw ≤ 13 → S.1 80 = nI nw → w_ah 13 S.2 → w_ah 13 (y_dwL t k S).2
  | 0, _, _, _, _, _, h => h
  | k + 1, nw, S, hk, hn, e, h => by
    rw [y_dwL]
    by_cases c : S.2 81 k = nI t
    · rw [if_pos c, e, i_cl (by omega)]
      exact ah_dwL k (nw - 1) _ (by omega) (by omega) (by unfold y_dropW; dsimp only; rw [up_s]) (by unfold y_dropW; exact ah_dwR _ _ _ h (by omega))
    · rw [if_neg c]
      exact ah_dwL k nw S (by omega) hn e h
end RP
