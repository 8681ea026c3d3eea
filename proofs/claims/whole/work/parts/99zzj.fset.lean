/-! settling ends nothing -/
section UM
variable {S S' : m_S} {t : Nat}
theorem en_needs (h : r_needs t S S') : S'.2 58 = S.2 58 := by
  obtain ⟨o, k, b, n, df, fs, h1, h2, h3, h4, h5, h6, h7, h8, rfl⟩ := h
  exact ns_A (by decide)
theorem en_undo {c : Int32} {m : Nat} (h : r_undo t c m S S') : S'.2 58 = S.2 58 := by
  obtain ⟨w, n, i, l, h1, h2, h3, h4, h5, h6, h7, h8, h9, b1, b2, b3, b4, b5, b6, b7, rfl⟩ := h
  exact su_A (t := t) (cc := c) (m := m) (w := w) (nl := n) (i := i) (l := l) (S := S) (by decide)
theorem en_free (h : r_free t S S') : S'.2 58 = S.2 58 := by
  rcases h with ⟨_, rfl⟩ | ⟨n, l, pos, lv, h1, h2, h3, rfl⟩
  · rfl
  · dsimp only; rw [up_n (by decide)]
theorem en_rings : ∀ (k : Nat) (S S' : m_S), r_rings t k S S' → S'.2 58 = S.2 58
  | 0, _, _, h => en_free h
  | k + 1, S, S', h => by
    rcases h with h | ⟨S2, ⟨n, l, pos, lv, p, r, m, a1, a2, a3, a4⟩, h2⟩
    · exact en_free h
    · rw [en_rings k S2 S' h2, en_undo a4]
      unfold y_ringed
      dsimp only
      rw [up_n (by decide), up_n (by decide)]
theorem en_work {o k : Nat} {a b : Int32} : (y_work o k a b S).2.2 58 = S.2 58 := z_frW.2.1 _ (by decide) (by decide) (by decide) (by decide) (by decide)
theorem en_do (h : r_do t S S') : S'.2 58 = S.2 58 := by
  obtain ⟨o, k, i, n, _, _, _, _, _, _, _, _, _, _, _, _, _, _, _, _, _, rfl⟩ := h
  unfold y_doIt
  dsimp only
  have e0 : (y_di0 S).2 58 = S.2 58 := by
    unfold y_di0
    first | rfl | (dsimp only; rw [up_n (by decide)]) | (split <;> rfl)
  have ew := en_work (o := o) (k := k) (a := S.2 69 t) (b := S.2 70 t) (S := y_di0 S)
  rw [e0] at ew
  generalize y_work o k (S.2 69 t) (S.2 70 t) (y_di0 S) = R at ew
  split
  · unfold y_did
    dsimp only
    rw [yput_A (by decide)]
    dsimp only
    rw [up_n (by decide), up_n (by decide), up_n (by decide), up_n (by decide), up_n (by decide), up_n (by decide), up_n (by decide), up_n (by decide), up_n (by decide), up_n (by decide), up_n (by decide), up_n (by decide), up_n (by decide), up_n (by decide), up_n (by decide)]
    exact ew
  · rw [yd_A (by decide)]
    dsimp only
    rw [up_n (by decide)]
    exact ew
theorem en_gol : ∀ (f : Nat) (S S' : m_S), r_gol t f S S' → S'.2 58 = S.2 58 := by
  have d : ∀ (S S' : m_S), r_gdo t S S' → S'.2 58 = S.2 58 := fun S S' ⟨_, _, _, _, _, _, h⟩ => en_do h
  have w : ∀ (S S' : m_S), r_gwt t S S' → S'.2 58 = S.2 58 := fun S S' ⟨k, c, o, n, w, h1, h2, h3, h4⟩ => by
    rw [en_rings _ _ _ h4]
    unfold y_wH
    dsimp only
    rw [up_n (by decide), up_n (by decide), up_n (by decide), up_n (by decide), up_n (by decide), up_n (by decide), up_n (by decide), yu_A (by decide) (by decide) (by decide) (by decide) (by decide) (by decide)]
    rfl
  have s : ∀ (S S' : m_S), r_gst t S S' → S'.2 58 = S.2 58 := fun S S' ⟨k, c, o, n, w, h1, h2⟩ => by
    rcases h2 with ⟨_, h2⟩ | ⟨_, _, _, h2⟩
    · rw [en_needs h2, stg_A (by decide)]; rfl
    · rw [en_needs h2, stg_A (by decide), ygr_A (by decide)]; rfl
  intro f
  induction f with
  | zero =>
    intro S S' h
    rcases h with h | h
    · exact d _ _ h
    · exact w _ _ h
  | succ f ih =>
    intro S S' h
    rcases h with h | h | ⟨S2, h1, h2⟩
    · exact d _ _ h
    · exact w _ _ h
    · rw [ih _ _ h2, s _ _ h1]
theorem en_settle : ∀ (f : Nat) (S S' : m_S), r_settle f S S' → S'.2 58 = S.2 58
  | 0, _, _, ⟨_, _, _, _, h⟩ => by rw [h]
  | f + 1, S, S', h => by
    rcases h with ⟨_, _, _, _, h⟩ | ⟨n, w, k, t, S2, h1, ⟨a1, a2, a3, a4, a5, a6, s, a7, a8, S3, a9, b1⟩, h2⟩
    · rw [h]
    · rw [en_settle f S2 S' h2, en_gol _ _ _ b1, en_needs a9]
      dsimp only
      rw [up_n (by decide), stg_A (by decide)]
      unfold y_dropW
      dsimp only
      rw [ydwR_A (by decide), ygr_A (by decide)]
end UM
