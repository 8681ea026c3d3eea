/-! the relation: things and what acts do to them -/
section RA
variable {P P' P'' P1 : k_P} {S S' S'' S1 : m_S} {p x j : Nat} {s : Int32}
def R_rp (p : Nat) (P : k_P) (S : m_S) : Prop := S.1 29 = 0 ∨ ∃ n, n ≤ 16 ∧ P.1 103 p = nI n ∧ S.1 30 = nI n ∧ ∀ i, i < n → P.2 (p + 1) i = S.2 31 i
theorem R_rp.cg (h : R_rp p P S) (e1 : P'.1 103 p = P.1 103 p) (e2 : P'.2 (p + 1) = P.2 (p + 1)) (e3 : S'.1 29 = S.1 29) (e4 : S'.1 30 = S.1 30) (e5 : S'.2 31 = S.2 31) : R_rp p P' S' := by
  unfold R_rp at h ⊢
  rw [e1, e2, e3, e4, e5]
  exact h
theorem R_rp.body (h : R_rp p P S) (v : Int32) : R_rp p (k_body P p v) (y_body v S) := by
  by_cases c : S.1 29 = 0
  · exact Or.inl (by rw [yb_F (by decide)]; exact c)
  · rcases h with h | ⟨n, hn, e1, e2, e3⟩
    · exact absurd h c
    · by_cases c2 : n = 16
      · subst c2
        have a1 : k_body P p v = P := by unfold k_body; rw [if_neg (fun z => by rw [e1] at z; exact absurd z.2 (by decide))]
        have a2 : y_body v S = S := by unfold y_body; rw [if_neg c, if_neg (by rw [e2]; decide)]
        rw [a1, a2]
        exact Or.inr ⟨16, hn, e1, e2, e3⟩
      · have hn' : n < 16 := by omega
        have b1 : (0 : Int32) ≤ nI n ∧ nI n < 16 := ⟨nI_pos' (by omega), by rw [il_gt_16 (by omega)]; exact hn'⟩
        have a1 : k_body P p v = k_wr (k_wa P (p + 1) (va_up (P.2 (p + 1)) n v)) 103 p (nI (n + 1)) := by unfold k_body; rw [e1, if_pos b1, i_cl (by omega), i_a1]
        have a2 : y_body v S = (va_up S.1 30 (nI (n + 1)), va_up S.2 31 (va_up (S.2 31) n v)) := by unfold y_body; rw [if_neg c, e2, if_pos b1.2, i_cl (by omega), i_a1]
        rw [a1, a2]
        refine Or.inr ⟨n + 1, hn', k_rs, (by dsimp only; exact up_s), fun i hi => ?_⟩
        dsimp only
        rw [k_r2, k_as, up_s]
        by_cases c3 : i = n
        · subst c3; rw [up_s, up_s]
        · rw [up_n c3, up_n c3]; exact e3 i (by omega)
/-- what an act on one thing may change -/
def fr_C (p x : Nat) (P P' : k_P) : Prop := (∀ f a, (a = p → f ≠ 100 ∧ f ≠ 101 ∧ f ≠ 102 ∧ f ≠ 103) → (a = x → f ≠ 223) → P'.1 f a = P.1 f a) ∧ ∀ a, a ≠ p + 1 → a ≠ x + 1 → P'.2 a = P.2 a
theorem fr_C.rf : fr_C p x P P := ⟨fun _ _ _ _ => rfl, fun _ _ _ => rfl⟩
theorem fr_C.tr (h : fr_C p x P P') (k : fr_C p x P' P'') : fr_C p x P P'' := ⟨fun f a h1 h2 => (k.1 f a h1 h2).trans (h.1 f a h1 h2), fun a h1 h2 => (k.2 a h1 h2).trans (h.2 a h1 h2)⟩
theorem fr_C.wr (h : fr_C p x P P') {f a : Nat} {v : Int32} (hf : (a = p ∧ (f = 100 ∨ f = 101 ∨ f = 102 ∨ f = 103)) ∨ (a = x ∧ f = 223)) : fr_C p x P (k_wr P' f a v) := by
  refine ⟨fun f' a' h1 h2 => ?_, h.2⟩
  rw [← h.1 f' a' h1 h2]
  by_cases e : f' = f
  · subst e
    refine k_ra (fun e => ?_)
    subst e
    rcases hf with ⟨e1, e2⟩ | ⟨e1, e2⟩
    · have := h1 e1
      omega
    · exact h2 e1 e2
  · exact k_rn e
theorem fr_C.wrv (h : fr_C p x P P') {v : Int32} : fr_C p x P (k_wr P' 223 x v) := h.wr (Or.inr ⟨rfl, rfl⟩)
theorem fr_C.wrp (h : fr_C p x P P') {f : Nat} {v : Int32} (hf : f = 100 ∨ f = 101 ∨ f = 102 ∨ f = 103) : fr_C p x P (k_wr P' f p v) := h.wr (Or.inl ⟨rfl, hf⟩)
theorem fr_C.wa (h : fr_C p x P P') {a : Nat} {g : Nat → Int32} (ha : a = p + 1 ∨ a = x + 1) : fr_C p x P (k_wa P' a g) :=
  ⟨h.1, fun a' h1 h2 => by rw [k_an (by omega)]; exact h.2 a' h1 h2⟩
theorem fr_C.body (h : fr_C p x P P') {v : Int32} : fr_C p x P (k_body P' p v) := by
  unfold k_body
  split
  · exact (h.wa (Or.inl rfl)).wrp (by decide)
  · exact h
def fr_M (j : Nat) (S S' : m_S) : Prop := z_fr S S' ∧ (∀ i, i ≠ j → S'.2 9 i = S.2 9 i ∧ S'.2 10 i = S.2 10 i ∧ S'.2 11 i = S.2 11 i) ∧ ∀ i, (i < 8 * j ∨ 8 * j + 8 ≤ i) → S'.2 12 i = S.2 12 i
theorem fr_M.rf : fr_M j S S := ⟨z_fr.refl, fun _ _ => ⟨rfl, rfl, rfl⟩, fun _ _ => rfl⟩
theorem fr_M.rfE : fr_M j S (S.1, S.2) := fr_M.rf
theorem fr_M.tr (h : fr_M j S S') (k : fr_M j S' S'') : fr_M j S S'' := ⟨h.1.trans k.1, fun i hi => ⟨(k.2.1 i hi).1.trans (h.2.1 i hi).1, (k.2.1 i hi).2.1.trans (h.2.1 i hi).2.1, (k.2.1 i hi).2.2.trans (h.2.1 i hi).2.2⟩, fun i hi => (k.2.2 i hi).trans (h.2.2 i hi)⟩
theorem fr_M.body (h : fr_M j S S') {v : Int32} : fr_M j S (y_body v S') :=
  ⟨z_frB h.1, fun i hi => by rw [yb_A (by decide), yb_A (by decide), yb_A (by decide)]; exact h.2.1 i hi, fun i hi => by rw [yb_A (by decide)]; exact h.2.2 i hi⟩
theorem fr_M.F {F : Nat → Int32} {A : Nat → Nat → Int32} (h : fr_M j S (F, A)) {k : Nat} {v : Int32} (hk : k = 25 ∨ k = 28 ∨ k = 26 ∨ k = 27) : fr_M j S (va_up F k v, A) :=
  ⟨z_frF h.1 hk, h.2.1, h.2.2⟩
theorem fr_M.val {F : Nat → Int32} {A : Nat → Nat → Int32} (h : fr_M j S (F, A)) {g : Nat → Int32} (hg : ∀ i, i ≠ j → g i = S.2 9 i) : fr_M j S (F, va_up A 9 g) :=
  ⟨z_frA h.1 (by decide), fun i hi => by dsimp only; rw [up_s, up_n (by decide), up_n (by decide)]; exact ⟨hg i hi, (h.2.1 i hi).2⟩, fun i hi => by dsimp only; rw [up_n (by decide)]; exact h.2.2 i hi⟩
theorem fr_M.sz {F : Nat → Int32} {A : Nat → Nat → Int32} (h : fr_M j S (F, A)) {g : Nat → Int32} (hg : ∀ i, i ≠ j → g i = S.2 10 i) : fr_M j S (F, va_up A 10 g) :=
  ⟨z_frA h.1 (by decide), fun i hi => by dsimp only; rw [up_s, up_n (by decide), up_n (by decide)]; exact ⟨(h.2.1 i hi).1, hg i hi, (h.2.1 i hi).2.2⟩, fun i hi => by dsimp only; rw [up_n (by decide)]; exact h.2.2 i hi⟩
theorem fr_M.th {F : Nat → Int32} {A : Nat → Nat → Int32} (h : fr_M j S (F, A)) {g : Nat → Int32} (hg : ∀ i, i ≠ j → g i = S.2 11 i) : fr_M j S (F, va_up A 11 g) :=
  ⟨z_frA h.1 (by decide), fun i hi => by dsimp only; rw [up_s, up_n (by decide), up_n (by decide)]; exact ⟨(h.2.1 i hi).1, (h.2.1 i hi).2.1, hg i hi⟩, fun i hi => by dsimp only; rw [up_n (by decide)]; exact h.2.2 i hi⟩
theorem fr_M.it {F : Nat → Int32} {A : Nat → Nat → Int32} (h : fr_M j S (F, A)) {g : Nat → Int32} (hg : ∀ i, (i < 8 * j ∨ 8 * j + 8 ≤ i) → g i = S.2 12 i) : fr_M j S (F, va_up A 12 g) :=
  ⟨z_frA h.1 (by decide), fun i hi => by dsimp only; rw [up_n (by decide), up_n (by decide), up_n (by decide)]; exact h.2.1 i hi, fun i hi => by dsimp only; rw [up_s]; exact hg i hi⟩
/-- what a thing has -/
def R_vl (P : k_P) (x : Nat) (A : Nat → Nat → Int32) (j : Nat) (s : Int32) : Prop :=
  (s = 4 → ∃ z, z ≤ 8 ∧ P.1 223 x = nI z ∧ A 10 j = nI z ∧ A 9 j = 0 ∧ A 11 j = 0 ∧ ∀ i, i < z → P.2 (x + 1) i = A 12 (8 * j + i)) ∧
  (s = 5 → P.1 223 x = A 11 j ∧ A 9 j = 0 ∧ A 10 j = 0 ∧ ∀ i, i < 8 → k_b (A 11 j) i = true → P.2 (x + 1) i = A 12 (8 * j + i)) ∧
  (¬ s = 4 → ¬ s = 5 → P.1 223 x = A 9 j ∧ A 10 j = 0 ∧ A 11 j = 0)
theorem R_vl.cg {A A' : Nat → Nat → Int32} (h : R_vl P x A j s) (e1 : P'.1 223 x = P.1 223 x) (e2 : P'.2 (x + 1) = P.2 (x + 1)) (e3 : A' 9 j = A 9 j) (e4 : A' 10 j = A 10 j) (e5 : A' 11 j = A 11 j) (e6 : ∀ i, i < 8 → A' 12 (8 * j + i) = A 12 (8 * j + i)) : R_vl P' x A' j s := by
  obtain ⟨h1, h2, h3⟩ := h
  refine ⟨fun e => ?_, fun e => ?_, fun n1 n2 => ?_⟩
  · obtain ⟨z, hz, a, b, c, d, f⟩ := h1 e
    exact ⟨z, hz, by rw [e1]; exact a, by rw [e4]; exact b, by rw [e3]; exact c, by rw [e5]; exact d, fun i hi => by rw [e2, e6 i (by omega)]; exact f i hi⟩
  · obtain ⟨a, b, c, d⟩ := h2 e
    exact ⟨by rw [e1, e5]; exact a, by rw [e3]; exact b, by rw [e4]; exact c, fun i hi hb => by rw [e2, e6 i hi]; exact d i hi (by rw [e5] at hb; exact hb)⟩
  · obtain ⟨a, b, c⟩ := h3 n1 n2
    exact ⟨by rw [e1, e3]; exact a, by rw [e4]; exact b, by rw [e5]; exact c⟩
def op_pre (p x j : Nat) (s : Int32) (P : k_P) (S : m_S) : Prop := R_vl P x S.2 j s ∧ R_rp p P S ∧ P.1 101 p = 0 ∧ S.1 25 = 0 ∧ P.1 220 x = s ∧ y_sort S.1 S.2 j = s ∧ x ≠ p
theorem op_pre.body (h : op_pre p x j s P S) (v : Int32) : op_pre p x j s (k_body P p v) (y_body v S) := by
  obtain ⟨a, b, c, d, e, f, g⟩ := h
  refine ⟨a.cg (kb_1 (by decide)) (kb_2 (by omega)) (by rw [yb_A (by decide)]) (by rw [yb_A (by decide)]) (by rw [yb_A (by decide)]) (fun i _ => by rw [yb_A (by decide)]), b.body v, (kb_1 (by decide)).trans c, (yb_F (by decide)).trans d, (kb_1 (by decide)).trans e, ?_, g⟩
  unfold y_sort at f ⊢
  rw [yb_F (by decide), yb_A (by decide)]
  exact f
def op_R (p x j : Nat) (s : Int32) (P : k_P) (S : m_S) (P' : k_P) (a : Int32) (S' : m_S) : Prop :=
  fr_C p x P P' ∧ fr_M j S S' ∧ R_vl P' x S'.2 j s ∧ R_rp p P' S' ∧ P'.1 101 p = S'.1 25 ∧ (S'.1 25 = 0 → P'.1 100 p = a)
theorem op_find (h : op_pre p x j s P1 S1) (f1 : fr_C p x P P1) (f2 : fr_M j S S1) {c a : Int32} (hc : c ≠ 0) : op_R p x j s P S (k_wr P1 101 p c) a (va_up S1.1 25 c, S1.2) := by
  obtain ⟨h1, h2, h3, h4, h5, h6, h7⟩ := h
  refine ⟨f1.wrp (by decide), fr_M.F f2 (by decide), h1.cg (k_rn (by decide)) rfl rfl rfl rfl (fun _ _ => rfl), h2.cg (k_rn (by decide)) rfl (by dsimp only; exact up_n (by decide)) (by dsimp only; exact up_n (by decide)) rfl, (by dsimp only; rw [k_rs, up_s]), fun z => absurd (by dsimp only at z; rw [up_s] at z; exact z) hc⟩
theorem op_get (h : op_pre p x j s P1 S1) (f1 : fr_C p x P P1) (f2 : fr_M j S S1) {v : Int32} : op_R p x j s P S (k_wr P1 100 p v) v S1 := by
  obtain ⟨h1, h2, h3, h4, h5, h6, h7⟩ := h
  refine ⟨f1.wrp (by decide), f2, h1.cg (k_rn (by decide)) rfl rfl rfl rfl (fun _ _ => rfl), h2.cg (k_rn (by decide)) rfl rfl rfl rfl, ?_, fun _ => k_rs⟩
  rw [k_rn (by decide), h3, h4]
theorem op_val (h : op_pre p x j s P1 S1) (f1 : fr_C p x P P1) (f2 : fr_M j S S1) (s4 : ¬ s = 4) (s5 : ¬ s = 5) {v a : Int32} {F : Nat → Int32} {g : Nat → Int32} (c1 : fr_C p x P1 P') (e1 : P'.1 223 x = v) (e2 : P'.1 100 p = a) (e3 : P'.1 101 p = 0) (e4 : P'.1 103 p = P1.1 103 p) (e5 : P'.2 (p + 1) = P1.2 (p + 1))
    (eF : F = S1.1 ∨ F = va_up S1.1 25 0) (eg : g = va_up (S1.2 9) j v) : op_R p x j s P S P' a (F, va_up S1.2 9 g) := by
  subst eg
  obtain ⟨h1, h2, h3, h4, h5, h6, h7⟩ := h
  have hF : F 25 = 0 ∧ F 29 = S1.1 29 ∧ F 30 = S1.1 30 ∧ fr_M j S (F, S1.2) := by
    rcases eF with e | e
    · subst e; exact ⟨h4, rfl, rfl, f2⟩
    · subst e; exact ⟨up_s, up_n (by decide), up_n (by decide), fr_M.F f2 (by decide)⟩
  refine ⟨f1.tr c1, hF.2.2.2.val (fun i hi => ?_), ⟨fun z => absurd z s4, fun z => absurd z s5, fun _ _ => ?_⟩, h2.cg e4 e5 hF.2.1 hF.2.2.1 (by dsimp only; exact up_n (by decide)), e3.trans hF.1.symm, fun _ => e2⟩
  · rw [up_n hi]; exact (f2.2.1 i hi).1
  · have := h1.2.2 s4 s5
    dsimp only
    rw [up_s, up_s, up_n (by decide), up_n (by decide)]
    exact ⟨e1, this.2⟩
end RA
