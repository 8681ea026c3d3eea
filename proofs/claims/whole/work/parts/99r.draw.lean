/-! rings: edges drawn, the way written down -/
section ST
variable {Z : k_Z} {P : k_P} {U : k_U} {r : Nat × Nat} {S : m_S} {N own n b l nl nw nr na ne t u cur c T : Nat} {ch : Nat → List Nat}
theorem edge_hi (hI : I_all n b l nl nw nr na ne ch cur c T S) (hK : K_all N own n b l nl nw nr ne ch cur Z P U r S) {q : Nat} (h1 : 1 ≤ t) (h2 : t ≤ b) (hq : q < 32) (hl : l ≤ q) : k_b (k_wf Z P U own (dl U own t)) q = false := by
  obtain ⟨hL, hD, hE, hLk, hV, hM, hP, hX⟩ := hI
  obtain ⟨E, kLg, hs1, hs5, kDe, kEn, kAs, kLk, kVe, kMi⟩ := hK
  obtain ⟨d1, d2, d3, d4, d5, d6, d7, d8, d9, d10, d11⟩ := hD
  obtain ⟨e1, e2, e3, e4, e5, e6, e7⟩ := kDe
  obtain ⟨j1, j2, j3, j4, j5, j6⟩ := kLk
  have n40 : n ≤ 40 := hL.2.2.1.1
  have seat : ∀ w, 1 ≤ w → w ≤ b → undw S.2 w → ∃ i, i < l ∧ P.1 52 (dl U own w) = nI i := fun w u1 u2 hu => by
    obtain ⟨i, hi, ei⟩ := List.getElem_of_mem ((d9 w).mpr ⟨u1, u2, hu⟩)
    have hi' := hi
    rw [v_lvl] at hi'
    exact ⟨i, hi', e7 i w (by rw [List.getElem?_eq_getElem hi, ei])⟩
  have sH : ∀ o, o < n → ∀ y ∈ k_hl U own o, ∃ i, i < l ∧ P.1 52 (Z.2.2 y) = nI i := fun o ho y hy => by
    obtain ⟨w, x, a1, a2, a3, a4, a5, a6⟩ := j3 o ho y hy
    rw [a4]; exact seat w a1 a2 a3
  have sQ : ∀ o, o < n → ∀ y ∈ k_ql U own o, ∃ i, i < l ∧ P.1 52 (Z.2.2 y) = nI i := fun o ho y hy => by
    obtain ⟨w, a1, a2, a3, a4, a5, a6, a7⟩ := j4 o ho y hy
    rw [a4]; exact seat w a1 a2 (Or.inr a3)
  unfold k_wf
  cases ew : U.1 (dl U own t) with
  | none => exact k_b0
  | some x =>
    obtain ⟨o, o1, o2, o3, o4⟩ := (j6 t h1 h2).2 x ew
    dsimp only
    rw [o4, i_cl (by omega), blk_bit hq _ _ (fun y hy => by obtain ⟨i, i1, i2⟩ := sQ o o1 y (List.mem_of_mem_take hy); exact ⟨i, by omega, i2⟩), blk_bit hq _ _ (fun y hy => by obtain ⟨i, i1, i2⟩ := sH o o1 y hy; exact ⟨i, by omega, i2⟩), k_b0, Bool.false_or, Bool.or_eq_false_iff, List.any_eq_false, List.any_eq_false]
    constructor
    · intro y hy z
      obtain ⟨i, i1, i2⟩ := sH o o1 y hy
      rw [Bool.and_eq_true, beq_iff_eq, i2, i_eq (by omega) (by omega)] at z
      omega
    · intro y hy z
      obtain ⟨i, i1, i2⟩ := sQ o o1 y (List.mem_of_mem_take hy)
      rw [Bool.and_eq_true, beq_iff_eq, i2, i_eq (by omega) (by omega)] at z
      omega
theorem edg_ok {g : Nat → Int32 × Int32} : ∀ (m k : Nat) (P : k_P), (k_edg own k g m P).1 = P.1 ∧ (∀ a, a ≠ own + 20 → a ≠ own + 21 → (k_edg own k g m P).2 a = P.2 a) ∧ ∀ i, (k_edg own k g m P).2 (own + 20) i = (if k ≤ i ∧ i < k + m then (g i).2 else P.2 (own + 20) i) ∧ (k_edg own k g m P).2 (own + 21) i = if k ≤ i ∧ i < k + m then (g i).1 else P.2 (own + 21) i
  | 0, k, P => ⟨rfl, fun _ _ _ => rfl, fun i => ⟨by rw [if_neg (by omega)]; rfl, by rw [if_neg (by omega)]; rfl⟩⟩
  | m + 1, k, P => by
    rw [k_edg]
    obtain ⟨h1, h2, h3⟩ := edg_ok m (k + 1) (k_drw P (own + 19) k (g k).1 (g k).2)
    have e1 : ∀ a, a ≠ own + 20 → a ≠ own + 21 → (k_drw P (own + 19) k (g k).1 (g k).2).2 a = P.2 a := fun a z1 z2 => by
      unfold k_drw
      rw [k_an (show a ≠ own + 19 + 1 from z1), k_an (show a ≠ own + 19 + 2 from z2)]
    have e2 : (k_drw P (own + 19) k (g k).1 (g k).2).2 (own + 20) = va_up (P.2 (own + 20)) k (g k).2 := by
      unfold k_drw k_wa
      dsimp only
      rw [show own + 20 = own + 19 + 1 from rfl, up_s]
    have e3 : (k_drw P (own + 19) k (g k).1 (g k).2).2 (own + 21) = va_up (P.2 (own + 21)) k (g k).1 := by
      unfold k_drw k_wa
      dsimp only
      rw [show own + 21 = own + 19 + 2 from rfl, up_n (by omega), up_s]
    refine ⟨h1.trans k_drw1, fun a z1 z2 => (h2 a z1 z2).trans (e1 a z1 z2), fun i => ?_⟩
    obtain ⟨q1, q2⟩ := h3 i
    rw [q1, q2, e2, e3]
    by_cases c : i = k
    · subst c
      have n1 : ¬ (i + 1 ≤ i ∧ i < i + 1 + m) := by omega
      have n2 : i ≤ i ∧ i < i + (m + 1) := by omega
      rw [if_neg n1, if_neg n1, if_pos n2, if_pos n2, up_s, up_s]
      exact ⟨rfl, rfl⟩
    · rw [up_n c, up_n c]
      by_cases c2 : k + 1 ≤ i ∧ i < k + 1 + m
      · have n2 : k ≤ i ∧ i < k + (m + 1) := by omega
        rw [if_pos c2, if_pos c2, if_pos n2, if_pos n2]
        exact ⟨rfl, rfl⟩
      · have n2 : ¬ (k ≤ i ∧ i < k + (m + 1)) := by omega
        rw [if_neg c2, if_neg c2, if_neg n2, if_neg n2]
        exact ⟨rfl, rfl⟩
theorem pth_ok {fr : Nat → Int32} {x : Nat → Nat} {R s : Nat} (hx : ∀ j, j ≤ R → x j < 12) (h0 : x 0 = s) (hs : fr s = -1) (hf : ∀ j, 0 < j → j ≤ R → fr (x j) = nI (x (j - 1))) : ∀ (j f : Nat), j ≤ R → j + 1 ≤ f → k_pth fr f (nI (x j)) = ((List.range (j + 1)).map x).reverse
  | 0, f, hj, hf' => by
    cases f with
    | zero => omega
    | succ f =>
      rw [k_pthS (hx 0 (by omega)), h0, hs, k_pthN (by decide)]
      simp [h0]
  | j + 1, f, hj, hf' => by
    cases f with
    | zero => omega
    | succ f =>
      rw [k_pthS (hx (j + 1) hj), hf (j + 1) (by omega) hj, show j + 1 - 1 = j by omega, pth_ok hx h0 hs hf j f (by omega) (by omega), List.range_succ (n := j + 1), List.map_append, List.reverse_append]
      rfl
end ST
