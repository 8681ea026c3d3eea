/-! acts on a shelf -/
section RF
variable {Z : k_Z} {U : k_U} {P P' P'' P1 : k_P} {S S' S'' S1 : m_S} {s n x0 o k : Nat} {A : Nat → Nat → Int32}
def R_sl (n : Nat) (A : Nat → Nat → Int32) (j : Nat) (s : Int32) : Prop := s = 7 → A 9 j = -1 ∨ ∃ q, q < n ∧ A 9 j = nI q
def R_ob (n : Nat) (A : Nat → Nat → Int32) : Prop := n ≤ 40 ∧ ∀ o, o < n → ∃ s d, s < 8 ∧ A 4 o = nI s ∧ A 7 o = nI (d + 1) ∧ d ≤ 5 ∧ (s = 0 → d ≤ 4) ∧ ((A 5 o = -1 ∧ d = 0) ∨ ∃ q, q < o ∧ A 5 o = nI q ∧ A 4 q = 0 ∧ A 7 q = nI d)
def R_sh (P : k_P) (U : k_U) (s n : Nat) (A : Nat → Nat → Int32) (x0 : Nat) : Prop := ∀ o, o < n → P.1 220 (k_th U s o) = A 4 o ∧ P.1 221 (k_th U s o) = A 5 o ∧ P.1 222 (k_th U s o) + 1 = A 7 o ∧ R_vl P (k_th U s o) A (x0 + o) (A 4 o) ∧ R_sl n A (x0 + o) (A 4 o)
/-- things of a shelf are apart from one another, and from the shelf's report -/
def R_ap (U : k_U) (s n : Nat) : Prop := (∀ o o', o < n → o' < n → k_th U s o = k_th U s o' → o = o') ∧ ∀ o, o < n → k_th U s o ≠ s + 2
def fr_S (U : k_U) (s n : Nat) (P P' : k_P) : Prop := (∀ f a, (a = s + 2 → f ≠ 100 ∧ f ≠ 101 ∧ f ≠ 102 ∧ f ≠ 103) → ((∃ o, o < n ∧ a = k_th U s o) → f ≠ 223) → P'.1 f a = P.1 f a) ∧ ∀ a, a ≠ s + 3 → (∀ o, o < n → a ≠ k_th U s o + 1) → P'.2 a = P.2 a
def fr_N (x0 n : Nat) (S S' : m_S) : Prop := z_fr S S' ∧ (∀ i, (i < x0 ∨ x0 + n ≤ i) → S'.2 9 i = S.2 9 i ∧ S'.2 10 i = S.2 10 i ∧ S'.2 11 i = S.2 11 i) ∧ ∀ i, (i < 8 * x0 ∨ 8 * (x0 + n) ≤ i) → S'.2 12 i = S.2 12 i
theorem fr_S.rf : fr_S U s n P P := ⟨fun _ _ _ _ => rfl, fun _ _ _ => rfl⟩
theorem fr_S.tr (h : fr_S U s n P P') (k : fr_S U s n P' P'') : fr_S U s n P P'' := ⟨fun f a h1 h2 => (k.1 f a h1 h2).trans (h.1 f a h1 h2), fun a h1 h2 => (k.2 a h1 h2).trans (h.2 a h1 h2)⟩
theorem fr_N.rf : fr_N x0 n S S := ⟨z_fr.refl, fun _ _ => ⟨rfl, rfl, rfl⟩, fun _ _ => rfl⟩
theorem fr_N.tr (h : fr_N x0 n S S') (k : fr_N x0 n S' S'') : fr_N x0 n S S'' := ⟨h.1.trans k.1, fun i hi => ⟨(k.2.1 i hi).1.trans (h.2.1 i hi).1, (k.2.1 i hi).2.1.trans (h.2.1 i hi).2.1, (k.2.1 i hi).2.2.trans (h.2.1 i hi).2.2⟩, fun i hi => (k.2.2 i hi).trans (h.2.2 i hi)⟩
theorem fr_C.sh (h : fr_C (s + 2) (k_th U s o) P P') (ho : o < n) : fr_S U s n P P' := ⟨fun f a h1 h2 => h.1 f a h1 (fun e => h2 ⟨o, ho, e⟩), fun a h1 h2 => h.2 a h1 (h2 o ho)⟩
theorem fr_M.sh (h : fr_M (x0 + o) S S') (ho : o < n) : fr_N x0 n S S' := ⟨h.1, fun i hi => h.2.1 i (by omega), fun i hi => h.2.2 i (by omega)⟩
theorem R_sh.keep (hR : R_sh P U s n A x0) {A' : Nat → Nat → Int32} (hP : ∀ f, f = 220 ∨ f = 221 ∨ f = 222 ∨ f = 223 → ∀ o, o < n → P'.1 f (k_th U s o) = P.1 f (k_th U s o)) (hC : ∀ o, o < n → P'.2 (k_th U s o + 1) = P.2 (k_th U s o + 1)) (h1 : A' 4 = A 4) (h2 : A' 5 = A 5) (h3 : A' 7 = A 7)
    (h4 : ∀ o, o < n → A' 9 (x0 + o) = A 9 (x0 + o) ∧ A' 10 (x0 + o) = A 10 (x0 + o) ∧ A' 11 (x0 + o) = A 11 (x0 + o)) (h5 : ∀ i, 8 * x0 ≤ i → i < 8 * (x0 + n) → A' 12 i = A 12 i) : R_sh P' U s n A' x0 := fun o ho => by
  obtain ⟨a, b, c, d, e⟩ := hR o ho
  refine ⟨?_, ?_, ?_, ?_, ?_⟩
  · rw [hP _ (by decide) o ho, h1]; exact a
  · rw [hP _ (by decide) o ho, h2]; exact b
  · rw [hP _ (by decide) o ho, h3]; exact c
  · rw [h1]
    exact d.cg (hP _ (by decide) o ho) (hC o ho) (h4 o ho).1 (h4 o ho).2.1 (h4 o ho).2.2 (fun i hi => h5 _ (by omega) (by omega))
  · rw [h1]
    unfold R_sl at e ⊢
    rw [(h4 o ho).1]
    exact e
theorem z_frO1 (h : z_fr S S') : S'.2 4 = S.2 4 ∧ S'.2 5 = S.2 5 ∧ S'.2 7 = S.2 7 :=
  ⟨h.2.1 _ (by decide) (by decide) (by decide) (by decide) (by decide), h.2.1 _ (by decide) (by decide) (by decide) (by decide) (by decide), h.2.1 _ (by decide) (by decide) (by decide) (by decide) (by decide)⟩
theorem R_sh.op (hR : R_sh P U s n S.2 x0) (ap : R_ap U s n) (ho : o < n) {a : Int32} (h : op_R (s + 2) (k_th U s o) (x0 + o) (S.2 4 o) P S P' a S') (hsl : R_sl n S'.2 (x0 + o) (S.2 4 o)) : R_sh P' U s n S'.2 x0 := fun o' ho' => by
  obtain ⟨a1, a2, a3, a4, a5⟩ := hR o' ho'
  obtain ⟨e1, e2, e3⟩ := z_frO1 h.2.1.1
  refine ⟨?_, ?_, ?_, ?_, ?_⟩
  · rw [h.1.1 _ _ (fun _ => by decide) (fun _ => by decide), e1]; exact a1
  · rw [h.1.1 _ _ (fun _ => by decide) (fun _ => by decide), e2]; exact a2
  · rw [h.1.1 _ _ (fun _ => by decide) (fun _ => by decide), e3]; exact a3
  · rw [e1]
    by_cases c : o' = o
    · subst c; exact h.2.2.1
    · have ne : k_th U s o' ≠ k_th U s o := fun z => c (ap.1 o' o ho' ho z)
      have nv := h.2.1.2.1 (x0 + o') (by omega)
      have := ap.2 o' ho'
      exact a4.cg (h.1.1 _ _ (fun _ => by decide) (fun z => absurd z ne)) (h.1.2 _ (by omega) (by omega)) nv.1 nv.2.1 nv.2.2 (fun i hi => h.2.1.2.2 _ (by omega))
  · rw [e1]
    by_cases c : o' = o
    · subst c; exact hsl
    · unfold R_sl at a5 ⊢
      rw [(h.2.1.2.1 (x0 + o') (by omega)).1]
      exact a5
theorem R_sl.op (hR : R_sh P U s n S.2 x0) (ho : o < n) {a : Int32} (h : op_R (s + 2) (k_th U s o) (x0 + o) (S.2 4 o) P S P' a S') (hv : S.2 4 o = 7 → S'.2 9 (x0 + o) = S.2 9 (x0 + o)) : R_sl n S'.2 (x0 + o) (S.2 4 o) := fun z => by
  rw [hv z]
  exact (hR o ho).2.2.2.2 z
theorem y_sort_o {F : Nat → Int32} (hx : x0 = 0 ∨ x0 = 40 ∨ x0 = 80) (ho : o < 40) : y_sort F A (x0 + o) = A 4 o := by
  unfold y_sort
  rw [if_neg (by omega), show (x0 + o) % 40 = o by omega]
theorem mod40 (hx : x0 = 0 ∨ x0 = 40 ∨ x0 = 80) (ho : o < 40) : (x0 + o) % 40 = o ∧ x0 + o - (x0 + o) % 40 = x0 := by omega
/-- an act begins: what stands then -/
theorem pre_of (hR : R_sh P U s n S.2 x0) (ap : R_ap U s n) (hn : n ≤ 40) (hx : x0 = 0 ∨ x0 = 40 ∨ x0 = 80) (ho : o < n) (hr : R_rp (s + 2) P S) (h1 : P.1 101 (s + 2) = 0) (h2 : S.1 25 = 0) : op_pre (s + 2) (k_th U s o) (x0 + o) (S.2 4 o) P S :=
  ⟨(hR o ho).2.2.2.1, hr, h1, h2, (hR o ho).1, y_sort_o hx (by omega), ap.2 o ho⟩
/-- the parents' way up, both ways -/
theorem lie_ok (hR : R_sh P U s n A x0) (hs : k_Sh Z P U s n) (hob : R_ob n A) : ∀ (m f o d : Nat) (g : Nat), o < n → g < n → A 7 o = nI (d + 1) → d ≤ 5 → d < m → d < f → k_lie P U s n (nI g) m (some (k_th U s o)) = y_bel A f (A 5 o) (nI g) := by
  intro m
  induction m with
  | zero => intro f o d g _ _ _ _ h; omega
  | succ m ih =>
    intro f o d g ho hg hd h5 h1 h2
    obtain ⟨f, rfl⟩ : ∃ f', f = f' + 1 := ⟨f - 1, by omega⟩
    have hn := hob.1
    obtain ⟨so, d', q1, q2, q3, q4, q5, q6⟩ := hob.2 o ho
    have ed : d' = d := by rw [hd] at q3; rw [i_eq (by omega) (by omega)] at q3; omega
    subst ed
    rw [k_lie, (hR o ho).2.1, y_bel]
    rcases q6 with ⟨q6, _⟩ | ⟨q, q6, q7, q8, q9⟩
    · rw [q6, if_pos rfl, k_tO_m1]
      cases m with
      | zero => rw [k_lie, Bool.or_false]
      | succ m => rw [k_lie, Bool.or_false]
    · rw [q7, if_neg (by rw [i_m1 (by omega)]; exact id), k_tO_s (by omega) hn]
      by_cases c : nI q = nI g
      · rw [if_pos c, decide_eq_true c]; rfl
      · rw [if_neg c, decide_eq_false c, Bool.false_or, i_cl (by omega)]
        obtain ⟨sq, dq, r1, r2, r3, r4, r5, r6⟩ := hob.2 q (by omega)
        have e2 : d' = dq + 1 := by rw [q9] at r3; rw [i_eq (by omega) (by omega)] at r3; omega
        exact ih f q dq g (by omega) hg r3 r4 (by omega) (by omega)
theorem par_of (hob : R_ob n A) : w_par n A := fun o ho => by
  obtain ⟨so, d, q1, q2, q3, q4, q5, q6⟩ := hob.2 o ho
  rcases q6 with ⟨q6, _⟩ | ⟨q, q6, q7, _⟩
  · exact Or.inl q6
  · exact Or.inr ⟨q, q6, q7⟩
def bd2 (p : Nat) (P P' : k_P) : Prop := (∀ f a, (a = p → f ≠ 103) → P'.1 f a = P.1 f a) ∧ ∀ a, a ≠ p + 1 → P'.2 a = P.2 a
theorem kb_1a {f a p : Nat} {v : Int32} (h : a = p → f ≠ 103) : (k_body P p v).1 f a = P.1 f a := by
  unfold k_body
  split
  · by_cases e : f = 103
    · subst e; rw [k_ra (fun z => h z rfl)]; rfl
    · rw [k_rn e]; rfl
  · rfl
theorem sum_ok (hR : R_sh P U s n S.2 x0) (hs : k_Sh Z P U s n) (hob : R_ob n S.2) (hx : x0 = 0 ∨ x0 = 40 ∨ x0 = 80) {g : Nat} (hg : g < n) : ∀ (m o : Nat) (v : Int32) (P1 : k_P) (S1 : m_S), o + m = n → R_rp (s + 2) P1 S1 → (∀ f, f ≠ 31 → S1.2 f = S.2 f) →
    (k_sbR P U s n (nI g) o m v P1).1 = (y_sumR (x0 + g) o m v S1).1 ∧ R_rp (s + 2) (k_sbR P U s n (nI g) o m v P1).2 (y_sumR (x0 + g) o m v S1).2 ∧ bd2 (s + 2) P1 (k_sbR P U s n (nI g) o m v P1).2 ∧ (∀ f, f ≠ 31 → (y_sumR (x0 + g) o m v S1).2.2 f = S.2 f) ∧ (∀ f, f ≠ 30 → (y_sumR (x0 + g) o m v S1).2.1 f = S1.1 f) := by
  have hn := hob.1
  intro m
  induction m with
  | zero => intro o v P1 S1 ho hr hA; exact ⟨rfl, hr, ⟨fun _ _ _ => rfl, fun _ _ => rfl⟩, hA, fun _ _ => rfl⟩
  | succ m ih =>
    intro o v P1 S1 ho hr hA
    have ho1 : o < n := by omega
    obtain ⟨a1, a2, a3, a4, a5⟩ := hR o ho1
    obtain ⟨so, d, q1, q2, q3, q4, q5, q6⟩ := hob.2 o ho1
    rw [k_sbR, y_sumR]
    have e1 : k_hv (P.1 220 (k_th U s o)) = y_cnt (S1.2 4 o) := by rw [a1, hA _ (by decide)]; rfl
    have e2 : k_lie P U s n (nI g) 6 (some (k_th U s o)) = y_isB S1.2 o (nI ((x0 + g) % 40)) := by
      rw [lie_ok hR hs hob 6 41 o d g ho1 hg q3 q4 (by omega) (by omega), (mod40 hx (by omega)).1]
      unfold y_isB
      have e0 : ∀ f u, y_bel S1.2 f u (nI g) = y_bel S.2 f u (nI g) := fun f => by
        induction f with
        | zero => intro u; rfl
        | succ f ih => intro u; simp only [y_bel, ih, hA _ (show 5 ≠ 31 by decide)]
      rw [e0, hA _ (by decide)]
    rw [e1, e2]
    by_cases c : y_cnt (S1.2 4 o) = true ∧ y_isB S1.2 o (nI ((x0 + g) % 40)) = true
    · rw [if_pos c, if_pos c]
      have s4 : ¬ S.2 4 o = 4 := fun z => by have := c.1; rw [hA _ (by decide), z] at this; revert this; decide
      have s5 : ¬ S.2 4 o = 5 := fun z => by have := c.1; rw [hA _ (by decide), z] at this; revert this; decide
      have ev : P.1 223 (k_th U s o) = S1.2 9 (x0 + g - (x0 + g) % 40 + o) := by rw [(mod40 hx (by omega)).2, (a4.2.2 s4 s5).1, hA _ (by decide)]
      rw [ev]
      obtain ⟨b1, b2, b3, b4, b5⟩ := ih (o + 1) (v + S1.2 9 (x0 + g - (x0 + g) % 40 + o)) (k_body P1 (s + 2) 1) (y_body 1 S1) (by omega) (hr.body 1) (fun f hf => by rw [yb_A hf]; exact hA f hf)
      exact ⟨b1, b2, ⟨fun f a hf => (b3.1 f a hf).trans (kb_1a hf), fun a ha => (b3.2 a ha).trans (kb_2 ha)⟩, b4, fun f hf => (b5 f hf).trans (yb_F hf)⟩
    · rw [if_neg c, if_neg c]
      exact ih (o + 1) v P1 S1 (by omega) hr hA
end RF
