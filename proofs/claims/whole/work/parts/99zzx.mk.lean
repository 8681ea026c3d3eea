/-! make: what it does to the reference -/
section VA
variable {S : m_S} {n nr : Nat} {s p v d : Int32}
theorem mk_ok (hr : S.1 13 = nI nr) (hn : n < 40) (hnr : nr ≤ 6000) : Mk s p v d n nr S (y_md s p v d n S) := by
  have aA : ∀ f, f ∉ fp_mk → y_mdA s p v d n S.2 f = S.2 f := fun f hf => by
    unfold y_mdA y_asM
    rw [up_n (nmem hf (by decide)), up_n (nmem hf (by decide)), up_n (nmem hf (by decide)), up_n (nmem hf (by decide)), up_n (nmem hf (by decide)), up_n (nmem hf (by decide)), up_n (nmem hf (by decide)), up_n (nmem hf (by decide)), up_n (nmem hf (by decide)), up_n (nmem hf (by decide)), up_n (nmem hf (by decide)), up_n (nmem hf (by decide))]
  have h0 : (va_up (va_up S.1 3 (nI (n + 1))) 32 (nI (n + 1)), va_up (y_mdA s p v d n S.2) 99 (va_up (S.2 99) (401 * n) (y_dig (va_up (va_up S.1 3 (nI (n + 1))) 32 (nI (n + 1))) (y_mdA s p v d n S.2) (40 + n)))).1 13 = nI nr := by dsimp only; rw [up_n (by decide), up_n (by decide)]; exact hr
  have hq := yput_row h0 (by omega) (w := 0) (t := 0) (o := nI n) (k := s) (a := (if y_cnt s = true then v else 0)) (b := p) (c := 0) (u := -1)
  have pA : ∀ f, f ∉ fp_R → (y_md s p v d n S).2 f = (va_up (y_mdA s p v d n S.2) 99 (va_up (S.2 99) (401 * n) (y_dig (va_up (va_up S.1 3 (nI (n + 1))) 32 (nI (n + 1))) (y_mdA s p v d n S.2) (40 + n)))) f := fun f hf => by
    unfold y_md
    dsimp only
    rw [yput_A hf]
  have pF : ∀ f, f ≠ 13 → (y_md s p v d n S).1 f = (va_up (va_up S.1 3 (nI (n + 1))) 32 (nI (n + 1))) f := fun f hf => by
    unfold y_md
    dsimp only
    rw [yput_F hf]
  have dg : y_dig (y_md s p v d n S).1 (y_md s p v d n S).2 (40 + n) = y_dig (va_up (va_up S.1 3 (nI (n + 1))) 32 (nI (n + 1))) (y_mdA s p v d n S.2) (40 + n) := by
    have q : ∀ f, f ∉ fp_R → f ≠ 99 → (y_md s p v d n S).2 f = y_mdA s p v d n S.2 f := fun f h1 h2 => by rw [pA f h1, up_n h2]
    have so : ∀ (F : Nat → Int32) (A : m_A), y_sort F A (40 + n) = A 4 n := fun F A => by
      unfold y_sort
      rw [if_neg (by omega), show (40 + n) % 40 = n by omega]
    unfold y_dig
    rw [so, so, q 4 (by decide) (by decide), q 9 (by decide) (by decide), q 10 (by decide) (by decide), q 12 (by decide) (by decide), q 11 (by decide) (by decide)]
  refine ⟨fun f h1 h2 => ?_, fun f hf => ?_, ?_, ?_, ?_, ?_, hq.1, ?_, ?_, ?_, ?_, ?_, ?_, ?_, ?_, ?_, ?_⟩
  · rw [pA f h1, up_n (nmem h2 (by decide)), aA f h2]
  · rw [pF f (nmem hf (by decide)), up_n (nmem hf (by decide)), up_n (nmem hf (by decide))]
  · rw [pF _ (by decide), up_n (by decide), up_s]
  · rw [pF _ (by decide), up_s]
  · exact yput_r h0
  · intro j hj
    obtain ⟨a1, a2, a3, a4, a5, a6, a7, a8⟩ := hq.2 j (by omega)
    have q : ∀ f, f ∈ fp_R → (va_up (y_mdA s p v d n S.2) 99 (va_up (S.2 99) (401 * n) (y_dig (va_up (va_up S.1 3 (nI (n + 1))) 32 (nI (n + 1))) (y_mdA s p v d n S.2) (40 + n)))) f = S.2 f := fun f hf => by
      rw [up_n (fun z => by subst z; revert hf; decide), aA f (by clear aA pA pF hq; revert f; decide)]
    dsimp only at a1 a2 a3 a4 a5 a6 a7 a8
    rw [q _ (by decide)] at a1 a2 a3 a4 a5 a6 a7 a8
    exact ⟨a1, a2, a3, a4, a5, a6, a7, a8⟩
  all_goals (rw [pA _ (by decide)])
  · rw [up_n (by decide)]; unfold y_mdA y_asM; simp (decide := true) only [up_n, up_s, ne_eq, not_false_eq_true]
  · rw [up_n (by decide)]; unfold y_mdA y_asM; simp (decide := true) only [up_n, up_s, ne_eq, not_false_eq_true]
  · rw [up_n (by decide)]; unfold y_mdA y_asM; simp (decide := true) only [up_n, up_s, ne_eq, not_false_eq_true]
  · rw [up_n (by decide)]; unfold y_mdA y_asM; simp (decide := true) only [up_n, up_s, ne_eq, not_false_eq_true]
  · rw [up_n (by decide)]; unfold y_mdA y_asM; simp (decide := true) only [up_n, up_s, ne_eq, not_false_eq_true]
  · rw [up_n (by decide)]; unfold y_mdA y_asM; simp (decide := true) only [up_n, up_s, ne_eq, not_false_eq_true]
  · rw [up_n (by decide)]; unfold y_mdA y_asM; simp (decide := true) only [up_n, up_s, ne_eq, not_false_eq_true]
  · rw [up_n (by decide)]; unfold y_mdA y_asM; simp (decide := true) only [up_n, up_s, ne_eq, not_false_eq_true]
  · rw [up_n (by decide)]; unfold y_mdA y_asM; simp (decide := true) only [up_n, up_s, ne_eq, not_false_eq_true]
  · rw [up_s, dg]
end VA
