/-! a deal undone as a whole: the reference's invariants -/
section RS
variable {S S' : m_S} {A : m_A} {n b l nl nw nr na ne t i c T : Nat} {cc : Int32} {ch : Nat → List Nat}
def Su (t : Nat) (cc : Int32) (m w nl i l : Nat) (S : m_S) : m_S := y_gone2 i l (y_gone t cc (y_drop (nI t) (-1) nl (y_dwL t w (y_tb t m S))))
def fp_un : List Nat := [17, 18, 19, 20, 21, 22, 23, 24, 53, 52, 9, 10, 11, 12, 81, 82, 83, 84, 85, 86, 73, 74, 75, 76, 77, 78, 79, 47, 48, 51, 46]
theorem su_A {m w f : Nat} (h : f ∉ fp_un) : (Su t cc m w nl i l S).2 f = S.2 f := by
  have s1 : ∀ f ∈ fp_R, f ∈ fp_un := by decide
  have s2 : ∀ f ∈ fp_L, f ∈ fp_un := by decide
  have s3 : ∀ f ∈ fp_W, f ∈ fp_un := by decide
  have s4 : ∀ f ∈ fp_tb, f ∈ fp_un := by decide
  unfold Su y_gone2
  dsimp only
  rw [yl_A (nmem h (by decide))]
  unfold y_gone
  dsimp only
  rw [up_n (nmem h (by decide)), up_n (nmem h (by decide)), up_n (nmem h (by decide)), yput_A (fun z => h (s1 _ z)), yd_A (fun z => h (s2 _ z)), ydwL_A (fun z => h (s3 _ z)), ytbm_A (fun z => h (s4 _ z))]
theorem su_V {m w f : Nat} (h : f = 9 ∨ f = 10 ∨ f = 11 ∨ f = 12 ∨ f = 53 ∨ f = 52) : (Su t cc m w nl i l S).2 f = (y_tb t m S).2 f := by
  have hr : f ∉ fp_R := by rcases h with h | h | h | h | h | h <;> subst h <;> decide
  have hl : f ∉ fp_L := by rcases h with h | h | h | h | h | h <;> subst h <;> decide
  have hw : f ∉ fp_W := by rcases h with h | h | h | h | h | h <;> subst h <;> decide
  unfold Su y_gone2
  dsimp only
  rw [yl_A (by omega)]
  unfold y_gone
  dsimp only
  rw [up_n (by omega), up_n (by omega), up_n (by omega), yput_A hr, yd_A hl, ydwL_A hw]
theorem su_F {m w f : Nat} (h : f ∉ [13, 80, 72, 45, 62]) : (Su t cc m w nl i l S).1 f = S.1 f := by
  unfold Su y_gone2
  dsimp only
  rw [up_n (nmem h (by decide)), yl_F (nmem h (by decide))]
  unfold y_gone
  dsimp only
  rw [yput_F (nmem h (by decide)), yd_F (nmem h (by decide)), ydwL_F (nmem h (by decide)), ytbm_F (nmem h (by decide))]
theorem su_g {m w : Nat} : (Su t cc m w nl i l S).1 62 = S.1 62 + 1 ∧ (Su t cc m w nl i l S).1 45 = nI (l - 1) := by
  unfold Su y_gone2
  dsimp only
  refine ⟨?_, ?_⟩
  · rw [up_s]
    unfold y_gone
    dsimp only
    rw [yput_F (by decide), yd_F (by decide), ydwL_F (by decide), ytbm_F (by decide)]
  · rw [up_n (by decide)]
    unfold y_leave
    dsimp only
    rw [up_s]
theorem su_s {m w : Nat} : (Su t cc m w nl i l S).2 47 = va_up (S.2 47) t 4 ∧ (Su t cc m w nl i l S).2 48 = va_up (S.2 48) t cc ∧ (Su t cc m w nl i l S).2 51 = va_up (S.2 51) t 0 := by
  unfold Su y_gone2
  dsimp only
  rw [yl_A (by decide), yl_A (by decide), yl_A (by decide)]
  unfold y_gone
  dsimp only
  refine ⟨?_, ?_, ?_⟩
  · rw [up_n (by decide), up_n (by decide), up_s, yput_A (by decide), yd_A (by decide), ydwL_A (by decide), ytbm_A (by decide)]
  · rw [up_n (by decide), up_s, yput_A (by decide), yd_A (by decide), ydwL_A (by decide), ytbm_A (by decide)]
  · rw [up_s, yput_A (by decide), yd_A (by decide), ydwL_A (by decide), ytbm_A (by decide)]
theorem su_r {m w : Nat} (hr : S.1 13 = nI nr) (hn : nr + m ≤ 6000) : (Su t cc m w nl i l S).1 13 = nI (nr + m + 1) ∧ rw_eq (nr + m) (y_tb t m S).2 (Su t cc m w nl i l S).2 ∧ rowAt (Su t cc m w nl i l S).2 (nr + m) 5 (nI t) (-1) (-1) 0 0 0 (-1) := by
  have h0 : (y_drop (nI t) (-1) nl (y_dwL t w (y_tb t m S))).1 13 = nI (nr + m) := by rw [yd_F (by decide), ydwL_F (by decide)]; exact (ytbm_r m nr S hr hn).1
  have hq := yput_row h0 (by omega) (w := 5) (t := nI t) (o := -1) (k := -1) (a := 0) (b := 0) (c := 0) (u := -1)
  have e : ∀ f, f ∈ fp_R → (Su t cc m w nl i l S).2 f = (y_put 5 (nI t) (-1) (-1) 0 0 0 (-1) (y_drop (nI t) (-1) nl (y_dwL t w (y_tb t m S)))).2 f := fun f hf => by
    unfold Su y_gone2
    dsimp only
    rw [yl_A (fun z => by subst z; revert hf; decide)]
    unfold y_gone
    dsimp only
    rw [up_n (fun z => by subst z; revert hf; decide), up_n (fun z => by subst z; revert hf; decide), up_n (fun z => by subst z; revert hf; decide)]
  have e2 : ∀ f, f ∈ fp_R → (y_drop (nI t) (-1) nl (y_dwL t w (y_tb t m S))).2 f = (y_tb t m S).2 f := fun f hf => by
    rw [yd_A (fun z => by revert f; decide), ydwL_A (fun z => by revert f; decide)]
  refine ⟨?_, fun j hj => ?_, ?_⟩
  · unfold Su y_gone2
    dsimp only
    rw [up_n (by decide), yl_F (by decide)]
    unfold y_gone
    dsimp only
    exact yput_r h0
  · obtain ⟨a1, a2, a3, a4, a5, a6, a7, a8⟩ := hq.2 j (by omega)
    rw [e2 _ (by decide)] at a1 a2 a3 a4 a5 a6 a7 a8
    rw [e _ (by decide), e _ (by decide), e _ (by decide), e _ (by decide), e _ (by decide), e _ (by decide), e _ (by decide), e _ (by decide)]
    exact ⟨a1, a2, a3, a4, a5, a6, a7, a8⟩
  · unfold rowAt
    rw [e _ (by decide), e _ (by decide), e _ (by decide), e _ (by decide), e _ (by decide), e _ (by decide), e _ (by decide), e _ (by decide)]
    exact hq.1
theorem vL_cg {A A' : m_A} (h : ∀ f ∈ fp_L, A' f = A f) : v_L nl A' = v_L nl A := by
  unfold v_L
  refine List.map_congr_left (fun k _ => ?_)
  unfold v_k
  rw [h _ (by decide), h _ (by decide), h _ (by decide), h _ (by decide), h _ (by decide), h _ (by decide), h _ (by decide)]
theorem vW_cg {A A' : m_A} (h : ∀ f ∈ fp_W, A' f = A f) : v_W nw A' = v_W nw A := by
  unfold v_W
  refine List.map_congr_left (fun k _ => ?_)
  unfold v_w
  rw [h _ (by decide), h _ (by decide), h _ (by decide), h _ (by decide), h _ (by decide), h _ (by decide)]
theorem go_all {x : v_LT} : v_go (nI t) (-1) x = (x.1 == nI t) := by
  unfold v_go
  simp
theorem su_L {m w : Nat} : ∃ nl', nl' ≤ nl ∧ (Su t cc m w nl i l S).1 72 = nI nl' ∧ v_L nl' (Su t cc m w nl i l S).2 = (v_L nl S.2).filter (fun x => x.1 != nI t) := by
  obtain ⟨nl', h1, h2, h3⟩ := v_yd (nl := nl) (S := y_dwL t w (y_tb t m S)) (u := nI t) (v := -1)
  refine ⟨nl', h1, ?_, ?_⟩
  · unfold Su y_gone2
    dsimp only
    rw [up_n (by decide), yl_F (by decide)]
    unfold y_gone
    dsimp only
    rw [yput_F (by decide)]
    exact h2
  · have e : v_L nl' (Su t cc m w nl i l S).2 = v_L nl' (y_drop (nI t) (-1) nl (y_dwL t w (y_tb t m S))).2 := vL_cg (fun f hf => by
      unfold Su y_gone2
      dsimp only
      rw [yl_A (fun z => by subst z; revert hf; decide)]
      unfold y_gone
      dsimp only
      rw [up_n (fun z => by subst z; revert hf; decide), up_n (fun z => by subst z; revert hf; decide), up_n (fun z => by subst z; revert hf; decide), yput_A (fun z => by revert f; decide)])
    rw [e, h3, vL_cg (A := S.2) (fun f hf => by rw [ydwL_A (fun z => by revert f; decide), ytbm_A (fun z => by revert f; decide)])]
    congr 1
    funext x
    rw [go_all]
    rfl
theorem su_W {m : Nat} (e : S.1 80 = nI nw) (hn : nw ≤ 13) : ∃ nw', nw' ≤ nw ∧ (Su t cc m nw nl i l S).1 80 = nI nw' ∧ v_W nw' (Su t cc m nw nl i l S).2 = (v_W nw S.2).filter (fun x => x.1 != nI t) := by
  obtain ⟨nw', h1, h2, h3⟩ := v_dwL' (t := t) (S := y_tb t m S) (nw := nw) (by rw [ytbm_F (by decide)]; exact e) hn
  refine ⟨nw', h1, ?_, ?_⟩
  · unfold Su y_gone2
    dsimp only
    rw [up_n (by decide), yl_F (by decide)]
    unfold y_gone
    dsimp only
    rw [yput_F (by decide), yd_F (by decide)]
    exact h2
  · have e : v_W nw' (Su t cc m nw nl i l S).2 = v_W nw' (y_dwL t nw (y_tb t m S)).2 := vW_cg (fun f hf => by
      unfold Su y_gone2
      dsimp only
      rw [yl_A (fun z => by subst z; revert hf; decide)]
      unfold y_gone
      dsimp only
      rw [up_n (fun z => by subst z; revert hf; decide), up_n (fun z => by subst z; revert hf; decide), up_n (fun z => by subst z; revert hf; decide), yput_A (fun z => by revert f; decide), yd_A (fun z => by revert f; decide)])
    rw [e, h3, vW_cg (A := S.2) (fun f hf => by rw [ytbm_A (fun z => by revert f; decide)])]
theorem su_lv {m w : Nat} (hi : i < l) : v_lv (l - 1) (Su t cc m w nl i l S).2 = (v_lv l S.2).eraseIdx i ∧ ∀ j, j < l - 1 → (Su t cc m w nl i l S).2 46 j = S.2 46 j ∨ (Su t cc m w nl i l S).2 46 j = S.2 46 (j + 1) := by
  have e0 : (y_gone t cc (y_drop (nI t) (-1) nl (y_dwL t w (y_tb t m S)))).2 46 = S.2 46 := by
    unfold y_gone
    dsimp only
    rw [up_n (by decide), up_n (by decide), up_n (by decide), yput_A (by decide), yd_A (by decide), ydwL_A (by decide), ytbm_A (by decide)]
  refine ⟨?_, fun j hj => ?_⟩
  · have := v_leave (S := y_gone t cc (y_drop (nI t) (-1) nl (y_dwL t w (y_tb t m S)))) hi
    have e2 : v_lv l (y_gone t cc (y_drop (nI t) (-1) nl (y_dwL t w (y_tb t m S)))).2 = v_lv l S.2 := by unfold v_lv; rw [e0]
    rw [e2] at this
    exact this
  · unfold Su y_gone2 y_leave
    dsimp only
    rw [up_s, e0]
    unfold va_cpy
    split
    · rename_i h
      exact Or.inr (by rw [show i + 1 + (j - i) = j + 1 by omega])
    · exact Or.inl rfl
end RS
