/-! the reference: what work leaves as it is; tried -/
section MN
variable {g : e_G} {Ψ : e_Q} {h : e_Hp} {M : Nat} {F : Nat → Int32} {A : Nat → Nat → Int32}
def z_fr (S S' : m_S) : Prop := (∀ f, f ≠ 25 → f ≠ 28 → f ≠ 26 → f ≠ 27 → f ≠ 30 → S'.1 f = S.1 f) ∧ (∀ f, f ≠ 31 → f ≠ 9 → f ≠ 10 → f ≠ 11 → f ≠ 12 → S'.2 f = S.2 f) ∧ (0 ≤ S.1 30 → 0 ≤ S'.1 30)
theorem z_fr.refl {S : m_S} : z_fr S S := ⟨fun _ _ _ _ _ _ => rfl, fun _ _ _ _ _ _ => rfl, id⟩
theorem z_fr.trans {S S' S'' : m_S} (h1 : z_fr S S') (h2 : z_fr S' S'') : z_fr S S'' :=
  ⟨fun f a b c d e => (h2.1 f a b c d e).trans (h1.1 f a b c d e), fun f a b c d e => (h2.2.1 f a b c d e).trans (h1.2.1 f a b c d e), fun z => h2.2.2 (h1.2.2 z)⟩
theorem z_frF {S S' : m_S} (hs : z_fr S S') {k : Nat} {v : Int32} (hk : k = 25 ∨ k = 28 ∨ k = 26 ∨ k = 27) : z_fr S (va_up S'.1 k v, S'.2) := by
  refine ⟨fun f a b c d e => ?_, hs.2.1, fun z => ?_⟩
  · show va_up S'.1 k v f = S.1 f
    rw [up_n (by rcases hk with z | z | z | z <;> (subst z; assumption))]
    exact hs.1 f a b c d e
  · show 0 ≤ va_up S'.1 k v 30
    rw [up_n (by rcases hk with z | z | z | z <;> (subst z; decide))]
    exact hs.2.2 z
theorem z_frA {S S' : m_S} (hs : z_fr S S') {k : Nat} {v : Nat → Int32} (hk : k = 9 ∨ k = 10 ∨ k = 11 ∨ k = 12) : z_fr S (S'.1, va_up S'.2 k v) := by
  refine ⟨hs.1, fun f a b c d e => ?_, hs.2.2⟩
  show va_up S'.2 k v f = S.2 f
  rw [up_n (by rcases hk with z | z | z | z <;> (subst z; assumption))]
  exact hs.2.1 f a b c d e
theorem z_frB {S S' : m_S} (hs : z_fr S S') {n : Int32} : z_fr S (y_body n S') :=
  hs.trans ⟨fun f _ _ _ _ e => yb_F e, fun f a _ _ _ _ => yb_A a, yb_t⟩
theorem z_frM {S S' : m_S} (hs : z_fr S S') {x : Nat} {a : Int64} : z_fr S (y_more x a S') :=
  hs.trans ⟨fun f a _ _ _ e => ym_F e a, fun f a b _ _ _ => ym_A a b, ym_t⟩
theorem z_frS {S S' : m_S} (hs : z_fr S S') {x o n : Nat} {s : Int32} : z_fr S (y_sumR x o n s S').2 := by
  induction n generalizing S' o s with
  | zero => exact hs
  | succ n ih =>
    unfold y_sumR
    split
    · exact ih (z_frB hs)
    · exact ih hs
theorem z_frO {S S' : m_S} (hs : z_fr S S') {x k a : Nat} : z_fr S (y_ofSet x k a S').2 := by
  unfold y_ofSet
  split
  · split
    · exact z_frA (z_frB hs) (Or.inl rfl)
    · split
      · exact z_frA (z_frB hs) (Or.inl rfl)
      · exact z_frB hs
  · split
    · exact z_frA (z_frB hs) (Or.inl rfl)
    · split
      · exact z_frA (z_frB hs) (Or.inl rfl)
      · exact z_frB hs
theorem z_frP {S S' : m_S} (hs : z_fr S S') {x k a : Nat} {b : Int32} : z_fr S (y_ofMap x k a b S').2 := by
  unfold y_ofMap
  have h1 : ∀ v1 v2, z_fr S (va_up (va_up (y_body (nI (k + 4)) S').1 27 v1) 28 v2, (y_body (nI (k + 4)) S').2) := fun v1 v2 => z_frF (z_frF (z_frB hs (n := nI (k + 4))) (Or.inr (Or.inr (Or.inr rfl)))) (Or.inr (Or.inl rfl))
  dsimp only
  split
  · exact z_frA (z_frA (h1 _ _) (Or.inr (Or.inr (Or.inl rfl)))) (Or.inr (Or.inr (Or.inr rfl)))
  · split
    · split
      · exact z_frA (z_frF (h1 _ _) (Or.inl rfl)) (Or.inr (Or.inr (Or.inl rfl)))
      · exact z_frF (h1 _ _) (Or.inl rfl)
    · exact z_frF (h1 _ _) (Or.inl rfl)
theorem z_frQ {S S' : m_S} (hs : z_fr S S') {x k : Nat} {a : Int32} : z_fr S (y_ofQ x k a S').2 := by
  have h1 := z_frB hs (n := nI (k + 4))
  unfold y_ofQ
  dsimp only
  split
  · split
    · exact z_frF h1 (Or.inl rfl)
    · exact z_frA (z_frA h1 (Or.inr (Or.inr (Or.inr rfl)))) (Or.inr (Or.inl rfl))
  · split
    · split
      · exact z_frF h1 (Or.inl rfl)
      · exact z_frA (z_frA h1 (Or.inr (Or.inr (Or.inr rfl)))) (Or.inr (Or.inl rfl))
    · split
      · split
        · exact z_frF h1 (Or.inl rfl)
        · exact z_frF h1 (Or.inl rfl)
      · split
        · exact z_frF h1 (Or.inl rfl)
        · split
          · exact z_frF h1 (Or.inl rfl)
          · exact z_frF h1 (Or.inl rfl)
theorem z_frY2 {S S' : m_S} (hs : z_fr S S') {x : Nat} {a : Int32} : z_fr S (y_by2 x a S').2 := by
  unfold y_by2
  split
  · exact z_frF (z_frB hs) (Or.inl rfl)
  · exact z_frA (z_frF (z_frB hs) (Or.inl rfl)) (Or.inl rfl)
theorem z_frY {S S' : m_S} (hs : z_fr S S') {x : Nat} {a : Int32} : z_fr S (y_by x a S').2 := by
  unfold y_by
  split
  · split
    · exact z_frF (z_frB hs) (Or.inl rfl)
    · exact z_frY2 (z_frF (z_frB hs) (Or.inl rfl))
  · exact z_frY2 hs
theorem z_frU {S S' : m_S} (hs : z_fr S S') {x : Nat} {a : Int32} : z_fr S (y_bump x a S') := by
  have h1 := z_frF (v := S'.2 9 x) (z_frB hs (n := 22)) (Or.inr (Or.inr (Or.inl rfl)))
  unfold y_bump
  split
  · exact z_frF h1 (Or.inl rfl)
  · split
    · exact z_frM h1
    · exact z_frF h1 (Or.inl rfl)
theorem z_frV {S S' : m_S} (hs : z_fr S S') {x b : Nat} {a : Int32} : z_fr S (y_move x a b S') := by
  have h1 := z_frM (x := x) (a := -a.toInt64) (z_frB (z_frB hs (n := 23)) (n := 20))
  unfold y_move
  dsimp only
  generalize y_more x (-a.toInt64) (y_body 20 (y_body 23 S')) = S2 at h1 ⊢
  have h3 : z_fr S (if S2.2 4 b = 6 then y_more (x - x % 40 + b) a.toInt64 (y_body 19 S2) else (va_up S2.1 25 2, S2.2)) := by
    split
    · exact z_frM (z_frB h1)
    · exact z_frF h1 (Or.inl rfl)
  generalize (if S2.2 4 b = 6 then y_more (x - x % 40 + b) a.toInt64 (y_body 19 S2) else (va_up S2.1 25 2, S2.2)) = S3 at h3 ⊢
  split
  · split
    · exact h3
    · exact z_frA h3 (Or.inl rfl)
  · exact h1
theorem z_frW {x k : Nat} {a b : Int32} {S : m_S} : z_fr S (y_work x k a b S).2 := by
  unfold y_work
  have h1 := z_frF (v := S.2 9 x) (z_frF (v := 0) (z_fr.refl (S := S)) (Or.inl rfl)) (Or.inr (Or.inl rfl))
  split
  · generalize ((va_up (va_up S.1 25 0) 28 (S.2 9 x), S.2) : m_S) = S0 at h1 ⊢
    unfold y_wA
    by_cases k0 : k = 0
    · rw [if_pos k0]; exact z_frB h1
    rw [if_neg k0]
    by_cases k1 : k = 1
    · rw [if_pos k1]; exact z_frM h1
    rw [if_neg k1]
    by_cases k2 : k = 2
    · rw [if_pos k2]; exact z_frY h1
    rw [if_neg k2]
    by_cases k3 : k = 3
    · rw [if_pos k3]; exact z_frA (z_frB h1) (Or.inl rfl)
    rw [if_neg k3]
    by_cases k6 : k ≤ 6
    · rw [if_pos k6]; exact z_frO h1
    rw [if_neg k6]
    by_cases k7 : k = 7
    · rw [if_pos k7]; exact z_frB h1
    rw [if_neg k7]
    by_cases k11 : k ≤ 11
    · rw [if_pos k11]; exact z_frQ h1
    rw [if_neg k11]
    by_cases k14 : k ≤ 14
    · rw [if_pos k14]; exact z_frP h1
    rw [if_neg k14]
    by_cases k15 : k = 15
    · rw [if_pos k15]; exact z_frM (z_frB h1)
    rw [if_neg k15]
    by_cases k16 : k = 16
    · rw [if_pos k16]; exact z_frM (z_frB h1)
    rw [if_neg k16]
    by_cases k17 : k = 17
    · rw [if_pos k17]; exact z_frA (z_frB h1) (Or.inl rfl)
    rw [if_neg k17]
    by_cases k18 : k = 18
    · rw [if_pos k18]; exact z_frU h1
    rw [if_neg k18]
    by_cases k19 : k = 19
    · rw [if_pos k19]; exact z_frV h1
    rw [if_neg k19]
    by_cases k20 : k = 20
    · rw [if_pos k20]; exact z_frS (z_frB h1)
    rw [if_neg k20]
    exact h1
  · exact z_frF h1 (Or.inl rfl)
/-- sizes: only a queue's, only at x -/
def z_sz (x : Nat) (S S' : m_S) : Prop := ∀ y, y < 128 → (∃ z, z ≤ 8 ∧ S.2 10 y = nI z) → (∃ z, z ≤ 8 ∧ S'.2 10 y = nI z) ∧ (y ≠ x → S'.2 10 y = S.2 10 y)
theorem z_szq {S S' : m_S} {x : Nat} (e : S'.2 10 = S.2 10) : z_sz x S S' := fun y _ hz => by rw [e]; exact ⟨hz, fun _ => rfl⟩
theorem m1s {S : m_S} {x : Nat} {a : Int64} : (y_more x a S).2 10 = S.2 10 := ym_A (by decide) (by decide)
theorem b1s {S : m_S} {n : Int32} : (y_body n S).2 10 = S.2 10 := yb_A (by decide)
theorem s1s {x : Nat} : ∀ {n o : Nat} {s : Int32} {S : m_S}, (y_sumR x o n s S).2.2 10 = S.2 10
  | 0, _, _, _ => rfl
  | n + 1, o, s, S => by
    unfold y_sumR
    split
    · rw [s1s, b1s]
    · exact s1s
theorem z_szQ {x k : Nat} {a : Int32} {S : m_S} : z_sz x S (y_ofQ x k a S).2 := by
  intro y hy hz
  have key : (y_ofQ x k a S).2.2 10 = S.2 10 ∨ (¬ S.2 10 x = 8 ∧ (y_ofQ x k a S).2.2 10 = va_up (S.2 10) x (S.2 10 x + 1)) ∨ (¬ S.2 10 x = 0 ∧ (y_ofQ x k a S).2.2 10 = va_up (S.2 10) x (S.2 10 x - 1)) := by
    unfold y_ofQ
    dsimp only
    by_cases k8 : k = 8
    · rw [if_pos k8]
      by_cases n8 : S.2 10 x = 8
      · rw [if_pos n8]; exact Or.inl b1s
      · rw [if_neg n8]; exact Or.inr (Or.inl ⟨n8, by dsimp only; rw [up_s]⟩)
    · rw [if_neg k8]
      by_cases k9 : k = 9
      · rw [if_pos k9]
        by_cases n0 : S.2 10 x = 0
        · rw [if_pos n0]; exact Or.inl b1s
        · rw [if_neg n0]; exact Or.inr (Or.inr ⟨n0, by dsimp only; rw [up_s]⟩)
      · rw [if_neg k9]
        refine Or.inl ?_
        repeat' split
        all_goals exact b1s
  rcases key with e | ⟨n8, e⟩ | ⟨n0, e⟩
  · rw [e]; exact ⟨hz, fun _ => rfl⟩
  · rw [e]
    by_cases hyx : y = x
    · subst hyx
      obtain ⟨z, hz8, ez⟩ := hz
      refine ⟨⟨z + 1, ?_, ?_⟩, fun c => absurd rfl c⟩
      · rcases Nat.lt_or_ge z 8 with w | w
        · omega
        · exact absurd (show S.2 10 y = 8 by rw [ez, show z = 8 by omega]; rfl) n8
      · rw [up_s, ez, i_a1]
    · rw [up_n hyx]; exact ⟨hz, fun _ => rfl⟩
  · rw [e]
    by_cases hyx : y = x
    · subst hyx
      obtain ⟨z, hz8, ez⟩ := hz
      have h0 : 0 < z := by
        rcases Nat.eq_zero_or_pos z with w | w
        · exact absurd (show S.2 10 y = 0 by rw [ez, w]; rfl) n0
        · exact w
      refine ⟨⟨z - 1, by omega, ?_⟩, fun c => absurd rfl c⟩
      rw [up_s, ez, i_s1 h0]
    · rw [up_n hyx]; exact ⟨hz, fun _ => rfl⟩
theorem z_szW {x k : Nat} {a b : Int32} {S : m_S} : z_sz x S (y_work x k a b S).2 := by
  unfold y_work
  split
  · generalize hS : ((va_up (va_up S.1 25 0) 28 (S.2 9 x), S.2) : m_S) = S0
    have e0 : S0.2 10 = S.2 10 := by rw [← hS]
    have key : z_sz x S0 (y_wA x k a b S0).2 := by
      have o1 : ∀ j, (y_ofSet x k j S0).2.2 10 = S0.2 10 := by
        intro j
        unfold y_ofSet
        repeat' split
        all_goals exact b1s
      have o2 : ∀ j, (y_ofMap x k j b S0).2.2 10 = S0.2 10 := by
        intro j
        unfold y_ofMap
        dsimp only
        repeat' split
        all_goals exact b1s
      have o3 : ∀ S' : m_S, (y_by2 x a S').2.2 10 = S'.2 10 := by
        intro S'
        unfold y_by2
        repeat' split
        all_goals exact b1s
      have o4 : (y_by x a S0).2.2 10 = S0.2 10 := by
        unfold y_by
        repeat' split
        · exact b1s
        · rw [o3]; exact b1s
        · rw [o3]
      have o5 : (y_bump x a S0).2 10 = S0.2 10 := by
        unfold y_bump
        repeat' split
        · exact b1s
        · rw [m1s]; exact b1s
        · exact b1s
      have o6 : ∀ j, (y_move x a j S0).2 10 = S0.2 10 := by
        intro j
        have e1 : (y_more x (-a.toInt64) (y_body 20 (y_body 23 S0))).2 10 = S0.2 10 := by rw [m1s, b1s, b1s]
        unfold y_move
        dsimp only
        generalize y_more x (-a.toInt64) (y_body 20 (y_body 23 S0)) = S2 at e1 ⊢
        have e3 : (if S2.2 4 j = 6 then y_more (x - x % 40 + j) a.toInt64 (y_body 19 S2) else (va_up S2.1 25 2, S2.2)).2 10 = S0.2 10 := by
          split
          · rw [m1s, b1s, e1]
          · exact e1
        generalize (if S2.2 4 j = 6 then y_more (x - x % 40 + j) a.toInt64 (y_body 19 S2) else (va_up S2.1 25 2, S2.2)) = S3 at e3 ⊢
        split
        · split
          · exact e3
          · dsimp only
            rw [up_n (by decide)]
            exact e3
        · exact e1
      unfold y_wA
      by_cases k0 : k = 0
      · rw [if_pos k0]; exact z_szq b1s
      rw [if_neg k0]
      by_cases k1 : k = 1
      · rw [if_pos k1]; exact z_szq m1s
      rw [if_neg k1]
      by_cases k2 : k = 2
      · rw [if_pos k2]; exact z_szq o4
      rw [if_neg k2]
      by_cases k3 : k = 3
      · rw [if_pos k3]; exact z_szq b1s
      rw [if_neg k3]
      by_cases k6 : k ≤ 6
      · rw [if_pos k6]; exact z_szq (o1 _)
      rw [if_neg k6]
      by_cases k7 : k = 7
      · rw [if_pos k7]; exact z_szq b1s
      rw [if_neg k7]
      by_cases k11 : k ≤ 11
      · rw [if_pos k11]; exact z_szQ
      rw [if_neg k11]
      by_cases k14 : k ≤ 14
      · rw [if_pos k14]; exact z_szq (o2 _)
      rw [if_neg k14]
      refine z_szq ?_
      split
      · rw [m1s]; exact b1s
      · split
        · rw [m1s]; exact b1s
        · split
          · exact b1s
          · split
            · exact o5
            · split
              · exact o6 _
              · split
                · simp only [y_sum]; rw [s1s]; exact b1s
                · rfl
    intro y hy hz
    have := key y hy (by rw [e0]; exact hz)
    rw [e0] at this
    exact this
  · exact z_szq rfl
/-- both ways round, on the i-th small one -/
def y_tr1 (s k a k2 a2 : Int32) (i : Nat) (S : m_S) : Bool × m_S :=
  let R2 := y_work 120 k.toNatClampNeg a 1 (y_lay s i S)
  let R3 := y_work 120 k2.toNatClampNeg a2 1 R2.2
  let R6 := y_work 120 k2.toNatClampNeg a2 1 (y_lay s i (R3.2.1, y_copy 120 121 R3.2.2))
  let R7 := y_work 120 k.toNatClampNeg a 1 R6.2
  (decide (R2.2.1 25 = R7.2.1 25) && decide (R3.2.1 25 = R6.2.1 25) && (decide (¬ R7.2.1 25 = 0) || decide (R2.1 = R7.1)) && (decide (¬ R3.2.1 25 = 0) || decide (R3.1 = R6.1)) && y_like R7.2.1 R7.2.2 120 121, R7.2)
def y_trR (s k a k2 a2 : Int32) (i : Nat) : Nat → Bool → m_S → Bool × m_S
  | 0, b, S => (b, S)
  | m + 1, b, S => y_trR s k a k2 a2 (i + 1) m (b && (y_tr1 s k a k2 a2 i S).1) (y_tr1 s k a k2 a2 i S).2
def y_tried (s k a k2 a2 : Int32) (S : m_S) : Int32 × m_S :=
  if y_isIn s 0 7 = true ∧ y_badT (S.1 3) s k a = false ∧ y_badT (S.1 3) s k2 a2 = false then
    (b_v (y_trR s k a k2 a2 0 (y_smM s).toNatClampNeg true S).1, (y_trR s k a k2 a2 0 (y_smM s).toNatClampNeg true S).2) else (-1, S)
theorem y_smB (s : Int32) : ∃ m, m ≤ 9 ∧ y_smM s = nI m := by
  unfold y_smM
  split
  · exact ⟨4, by decide, rfl⟩
  · split
    · exact ⟨8, by decide, rfl⟩
    · split
      · exact ⟨3, by decide, rfl⟩
      · split
        · exact ⟨9, by decide, rfl⟩
        · exact ⟨1, by decide, rfl⟩
theorem y_lyT {s : Int32} {i : Nat} {S : m_S} (h0 : 0 ≤ S.1 30) : 0 ≤ (y_lay s i S).1 30 := by
  unfold y_lay
  dsimp only
  rw [up_n (by decide)]
  exact h0
theorem y_lyS {s : Int32} {i : Nat} {S : m_S} : ∃ z, z ≤ 8 ∧ (y_lay s i S).2 10 120 = nI z := by
  unfold y_lay y_layB y_layA
  dsimp only
  by_cases c : s = 4 ∧ 0 < i
  · rw [if_pos c, if_neg (by rw [c.1]; decide)]
    exact ⟨1, by decide, by simp only [va_up]; rfl⟩
  · rw [if_neg c]
    refine ⟨0, by decide, ?_⟩
    split <;> simp (decide := true) only [va_up, if_true, if_false]
theorem c_workS (hg : e_GK g) {k a n s : Int32} (hb : y_badT n s k a = false) (ht : 0 ≤ F 30) (hs : ∃ z, z ≤ 8 ∧ A 10 120 = nI z) (q : Ψ (some (.int (y_work 120 k.toNatClampNeg a 1 (F, A)).1)) (m_H M (y_work 120 k.toNatClampNeg a 1 (F, A)).2.1 (y_work 120 k.toNatClampNeg a 1 (F, A)).2.2 h)) : e_Sc g 181 [.ref M, .int 120, .int k, .int a, .int 1] (m_H M F A h) Ψ := by
  have h1 : y_isIn k 0 (nI 18 - 1) = true := by
    simp only [y_badT, Bool.or_eq_false_iff, Bool.not_eq_false'] at hb
    exact hb.1.1.1
  have h2 : y_good n (-1) k a 0 = true := by
    simp only [y_badT, Bool.or_eq_false_iff, Bool.not_eq_false'] at hb
    exact hb.2
  obtain ⟨j, hj, rfl⟩ := io_t (by omega) h1
  rw [i_cl (show j ≤ 2000000000 by omega)] at q
  have e4 : ∀ c, c ≤ 21 → (nI j = nI c ↔ j = c) := fun c hc => Iff.of_eq (i_eq (by omega) (by omega))
  refine c_work (x := 120) hg (by decide) (by omega) ht hs (fun a1 a2 => ?_) (fun a1 a2 => ?_) (fun z => by omega) (fun z => by omega) (fun z => by omega) q
  · have h3 : y_isIn a 0 (nI 32 - 1) = true := by
      have : nI j = 4 ∨ nI j = 5 ∨ nI j = 6 := by
        rcases (show j = 4 ∨ j = 5 ∨ j = 6 by omega) with z | z | z <;> subst z <;> decide
      unfold y_good at h2
      rw [if_pos this] at h2
      exact h2
    obtain ⟨i, hi, e⟩ := io_t (by omega) h3
    exact ⟨i, hi, e⟩
  · have h3 : y_isIn a 0 (nI 8 - 1) = true := by
      rcases (show j = 12 ∨ j = 13 ∨ j = 14 by omega) with z | z | z <;> subst z <;> exact h2
    obtain ⟨i, hi, e⟩ := io_t (by omega) h3
    exact ⟨i, hi, e⟩
theorem c_tried (hg : e_GK g) {s k a k2 a2 : Int32} (ht : 0 ≤ F 30) (q : Ψ (some (.int (y_tried s k a k2 a2 (F, A)).1)) (m_H M (y_tried s k a k2 a2 (F, A)).2.1 (y_tried s k a k2 a2 (F, A)).2.2 h)) : e_Sc g 241 [.ref M, .int s, .int k, .int a, .int k2, .int a2] (m_H M F A h) Ψ := by
  refine e_call (cd := cd241) hg ok241 (by rw [mL241]; exact Nat.le_of_ble_eq_true rfl) ?_
  rw [mL241]
  simp only [x_ini, x_inr, x_inn, x_inq, x_inl, x_in0, x_rp0, x_rps, Nat.reduceSub]
  simp (decide := true) (disch := omega) only [↓u241_0, ↓u241_32, ↓u241_34, ↓u241_170, ↓u241_182, ↓u241_197, ↓u241_198, ↓u241_207, ↓u241_216, ↓u241_217, ↓x_nil, ↓x_om, ↓x_iload_1, ↓x_iconst_0, ↓x_bipush_7, ↓x_invokestatic, mt_13_237, x_ps0, x_ps1, x_l40, x_l41, x_l42, x_l43, x_l44, ↓x_cs3_1, ↓x_if_eq, ↓x_aload_0r, ↓x_aload_0n, ↓x_aload_0q, ↓x_iload_2, ↓x_iload_3, ↓x_invokevirtual, mt_13_514, ↓x_cv3, ↓x_if_ne, ↓x_iload_4, ↓x_iload_5, ↓x_iconst_m1, ↓x_ireturn, rt241, ↓x_iconst_1, ↓x_istore_6, x_cl_i, x_cl_r, x_cl_n, x_cl_q, x_cl_0, x_cl_l, ↓x_istore_7, ↓x_iload_7, mt_13_517, ↓x_cv1, ↓x_icmp_ge, mt_13_520, ↓x_cv2, ↓x_bipush_120, mt_13_446, ↓x_cv4, ↓x_istore_8, ↓x_getfield, ft_13_303, ↓x_istore_9, ↓x_istore_10, ↓x_istore_11, ↓x_bipush_121, mt_13_508, ↓x_istore_12, ↓x_istore_13, ↓x_istore_14, ↓x_iload_6, ↓x_iload_9, ↓x_icmp_ne, ↓x_iload_11, ↓x_iload_13, ↓x_iload_8, ↓x_iload_14, ↓x_iload_10, ↓x_iload_12, mt_13_505, ↓x_goto, ↓x_iand, ↓x_iinc_7_1, Int.reduceAdd, Nat.reduceAdd, true_and, and_true, true_or, or_true, false_or, or_false, reduceCtorEq, false_and, and_false, and_self, or_self, false_implies, true_implies, not_true_eq_false, not_false_eq_true, implies_true, Option.some.injEq, mv25, mw25, m_gO, m_isC, up_s, up_n, i_in, i_cl]
  refine c_isIn hg ?_
  simp (decide := true) (disch := omega) only [↓u241_0, ↓u241_32, ↓u241_34, ↓u241_170, ↓u241_182, ↓u241_197, ↓u241_198, ↓u241_207, ↓u241_216, ↓u241_217, ↓x_nil, ↓x_om, ↓x_iload_1, ↓x_iconst_0, ↓x_bipush_7, ↓x_invokestatic, mt_13_237, x_ps0, x_ps1, x_l40, x_l41, x_l42, x_l43, x_l44, ↓x_cs3_1, ↓x_if_eq, ↓x_aload_0r, ↓x_aload_0n, ↓x_aload_0q, ↓x_iload_2, ↓x_iload_3, ↓x_invokevirtual, mt_13_514, ↓x_cv3, ↓x_if_ne, ↓x_iload_4, ↓x_iload_5, ↓x_iconst_m1, ↓x_ireturn, rt241, ↓x_iconst_1, ↓x_istore_6, x_cl_i, x_cl_r, x_cl_n, x_cl_q, x_cl_0, x_cl_l, ↓x_istore_7, ↓x_iload_7, mt_13_517, ↓x_cv1, ↓x_icmp_ge, mt_13_520, ↓x_cv2, ↓x_bipush_120, mt_13_446, ↓x_cv4, ↓x_istore_8, ↓x_getfield, ft_13_303, ↓x_istore_9, ↓x_istore_10, ↓x_istore_11, ↓x_bipush_121, mt_13_508, ↓x_istore_12, ↓x_istore_13, ↓x_istore_14, ↓x_iload_6, ↓x_iload_9, ↓x_icmp_ne, ↓x_iload_11, ↓x_iload_13, ↓x_iload_8, ↓x_iload_14, ↓x_iload_10, ↓x_iload_12, mt_13_505, ↓x_goto, ↓x_iand, ↓x_iinc_7_1, Int.reduceAdd, Nat.reduceAdd, true_and, and_true, true_or, or_true, false_or, or_false, reduceCtorEq, false_and, and_false, and_self, or_self, false_implies, true_implies, not_true_eq_false, not_false_eq_true, implies_true, Option.some.injEq, mv25, mw25, m_gO, m_isC, up_s, up_n, i_in, i_cl]
  refine c_bool (fun h1 => c_isBadTry hg ?_) (fun h1 => by simpa [y_tried, h1] using q)
  simp (decide := true) (disch := omega) only [↓u241_0, ↓u241_32, ↓u241_34, ↓u241_170, ↓u241_182, ↓u241_197, ↓u241_198, ↓u241_207, ↓u241_216, ↓u241_217, ↓x_nil, ↓x_om, ↓x_iload_1, ↓x_iconst_0, ↓x_bipush_7, ↓x_invokestatic, mt_13_237, x_ps0, x_ps1, x_l40, x_l41, x_l42, x_l43, x_l44, ↓x_cs3_1, ↓x_if_eq, ↓x_aload_0r, ↓x_aload_0n, ↓x_aload_0q, ↓x_iload_2, ↓x_iload_3, ↓x_invokevirtual, mt_13_514, ↓x_cv3, ↓x_if_ne, ↓x_iload_4, ↓x_iload_5, ↓x_iconst_m1, ↓x_ireturn, rt241, ↓x_iconst_1, ↓x_istore_6, x_cl_i, x_cl_r, x_cl_n, x_cl_q, x_cl_0, x_cl_l, ↓x_istore_7, ↓x_iload_7, mt_13_517, ↓x_cv1, ↓x_icmp_ge, mt_13_520, ↓x_cv2, ↓x_bipush_120, mt_13_446, ↓x_cv4, ↓x_istore_8, ↓x_getfield, ft_13_303, ↓x_istore_9, ↓x_istore_10, ↓x_istore_11, ↓x_bipush_121, mt_13_508, ↓x_istore_12, ↓x_istore_13, ↓x_istore_14, ↓x_iload_6, ↓x_iload_9, ↓x_icmp_ne, ↓x_iload_11, ↓x_iload_13, ↓x_iload_8, ↓x_iload_14, ↓x_iload_10, ↓x_iload_12, mt_13_505, ↓x_goto, ↓x_iand, ↓x_iinc_7_1, Int.reduceAdd, Nat.reduceAdd, true_and, and_true, true_or, or_true, false_or, or_false, reduceCtorEq, false_and, and_false, and_self, or_self, false_implies, true_implies, not_true_eq_false, not_false_eq_true, implies_true, Option.some.injEq, mv25, mw25, m_gO, m_isC, up_s, up_n, i_in, i_cl]
  refine c_bool (fun h2 => by simpa [y_tried, h2] using q) (fun h2 => c_isBadTry hg ?_)
  simp (decide := true) (disch := omega) only [↓u241_0, ↓u241_32, ↓u241_34, ↓u241_170, ↓u241_182, ↓u241_197, ↓u241_198, ↓u241_207, ↓u241_216, ↓u241_217, ↓x_nil, ↓x_om, ↓x_iload_1, ↓x_iconst_0, ↓x_bipush_7, ↓x_invokestatic, mt_13_237, x_ps0, x_ps1, x_l40, x_l41, x_l42, x_l43, x_l44, ↓x_cs3_1, ↓x_if_eq, ↓x_aload_0r, ↓x_aload_0n, ↓x_aload_0q, ↓x_iload_2, ↓x_iload_3, ↓x_invokevirtual, mt_13_514, ↓x_cv3, ↓x_if_ne, ↓x_iload_4, ↓x_iload_5, ↓x_iconst_m1, ↓x_ireturn, rt241, ↓x_iconst_1, ↓x_istore_6, x_cl_i, x_cl_r, x_cl_n, x_cl_q, x_cl_0, x_cl_l, ↓x_istore_7, ↓x_iload_7, mt_13_517, ↓x_cv1, ↓x_icmp_ge, mt_13_520, ↓x_cv2, ↓x_bipush_120, mt_13_446, ↓x_cv4, ↓x_istore_8, ↓x_getfield, ft_13_303, ↓x_istore_9, ↓x_istore_10, ↓x_istore_11, ↓x_bipush_121, mt_13_508, ↓x_istore_12, ↓x_istore_13, ↓x_istore_14, ↓x_iload_6, ↓x_iload_9, ↓x_icmp_ne, ↓x_iload_11, ↓x_iload_13, ↓x_iload_8, ↓x_iload_14, ↓x_iload_10, ↓x_iload_12, mt_13_505, ↓x_goto, ↓x_iand, ↓x_iinc_7_1, Int.reduceAdd, Nat.reduceAdd, true_and, and_true, true_or, or_true, false_or, or_false, reduceCtorEq, false_and, and_false, and_self, or_self, false_implies, true_implies, not_true_eq_false, not_false_eq_true, implies_true, Option.some.injEq, mv25, mw25, m_gO, m_isC, up_s, up_n, i_in, i_cl]
  refine c_bool (fun h3 => by simpa [y_tried, h3] using q) (fun h3 => ?_)
  obtain ⟨m0, hm0, em0⟩ := y_smB s
  simp only [y_tried, h1, h2, h3, and_self, if_true, em0, i_cl (show m0 ≤ 2000000000 by omega)] at q
  have lp : ∀ m i b (S : m_S) w1 w2 w3 w4 w5 w6 w7, i + m = m0 → 0 ≤ S.1 30 → y_trR s k a k2 a2 i m b S = y_trR s k a k2 a2 0 m0 true (F, A) → e_Sm g 241 13 cd241 Ψ 40 [some (.ref M), some (.int s), some (.int k), some (.int a), some (.int k2), some (.int a2), some (.int (b_v b)), some (.int (nI i)), w1, w2, w3, w4, w5, w6, w7] [] (m_H M S.1 S.2 h) := by
    intro m
    induction m with
    | zero =>
      intro i b S w1 w2 w3 w4 w5 w6 w7 hi hS he
      rw [u241_40]
      simp (decide := true) (disch := omega) only [↓u241_0, ↓u241_32, ↓u241_34, ↓u241_170, ↓u241_182, ↓u241_197, ↓u241_198, ↓u241_207, ↓u241_216, ↓u241_217, ↓x_nil, ↓x_om, ↓x_iload_1, ↓x_iconst_0, ↓x_bipush_7, ↓x_invokestatic, mt_13_237, x_ps0, x_ps1, x_l40, x_l41, x_l42, x_l43, x_l44, ↓x_cs3_1, ↓x_if_eq, ↓x_aload_0r, ↓x_aload_0n, ↓x_aload_0q, ↓x_iload_2, ↓x_iload_3, ↓x_invokevirtual, mt_13_514, ↓x_cv3, ↓x_if_ne, ↓x_iload_4, ↓x_iload_5, ↓x_iconst_m1, ↓x_ireturn, rt241, ↓x_iconst_1, ↓x_istore_6, x_cl_i, x_cl_r, x_cl_n, x_cl_q, x_cl_0, x_cl_l, ↓x_istore_7, ↓x_iload_7, mt_13_517, ↓x_cv1, ↓x_icmp_ge, mt_13_520, ↓x_cv2, ↓x_bipush_120, mt_13_446, ↓x_cv4, ↓x_istore_8, ↓x_getfield, ft_13_303, ↓x_istore_9, ↓x_istore_10, ↓x_istore_11, ↓x_bipush_121, mt_13_508, ↓x_istore_12, ↓x_istore_13, ↓x_istore_14, ↓x_iload_6, ↓x_iload_9, ↓x_icmp_ne, ↓x_iload_11, ↓x_iload_13, ↓x_iload_8, ↓x_iload_14, ↓x_iload_10, ↓x_iload_12, mt_13_505, ↓x_goto, ↓x_iand, ↓x_iinc_7_1, Int.reduceAdd, Nat.reduceAdd, true_and, and_true, true_or, or_true, false_or, or_false, reduceCtorEq, false_and, and_false, and_self, or_self, false_implies, true_implies, not_true_eq_false, not_false_eq_true, implies_true, Option.some.injEq, mv25, mw25, m_gO, m_isC, up_s, up_n, i_in, i_cl]
      refine c_smallMany hg ?_
      simp (decide := true) (disch := omega) only [↓u241_0, ↓u241_32, ↓u241_34, ↓u241_170, ↓u241_182, ↓u241_197, ↓u241_198, ↓u241_207, ↓u241_216, ↓u241_217, ↓x_nil, ↓x_om, ↓x_iload_1, ↓x_iconst_0, ↓x_bipush_7, ↓x_invokestatic, mt_13_237, x_ps0, x_ps1, x_l40, x_l41, x_l42, x_l43, x_l44, ↓x_cs3_1, ↓x_if_eq, ↓x_aload_0r, ↓x_aload_0n, ↓x_aload_0q, ↓x_iload_2, ↓x_iload_3, ↓x_invokevirtual, mt_13_514, ↓x_cv3, ↓x_if_ne, ↓x_iload_4, ↓x_iload_5, ↓x_iconst_m1, ↓x_ireturn, rt241, ↓x_iconst_1, ↓x_istore_6, x_cl_i, x_cl_r, x_cl_n, x_cl_q, x_cl_0, x_cl_l, ↓x_istore_7, ↓x_iload_7, mt_13_517, ↓x_cv1, ↓x_icmp_ge, mt_13_520, ↓x_cv2, ↓x_bipush_120, mt_13_446, ↓x_cv4, ↓x_istore_8, ↓x_getfield, ft_13_303, ↓x_istore_9, ↓x_istore_10, ↓x_istore_11, ↓x_bipush_121, mt_13_508, ↓x_istore_12, ↓x_istore_13, ↓x_istore_14, ↓x_iload_6, ↓x_iload_9, ↓x_icmp_ne, ↓x_iload_11, ↓x_iload_13, ↓x_iload_8, ↓x_iload_14, ↓x_iload_10, ↓x_iload_12, mt_13_505, ↓x_goto, ↓x_iand, ↓x_iinc_7_1, Int.reduceAdd, Nat.reduceAdd, true_and, and_true, true_or, or_true, false_or, or_false, reduceCtorEq, false_and, and_false, and_self, or_self, false_implies, true_implies, not_true_eq_false, not_false_eq_true, implies_true, Option.some.injEq, i_add, i_a1, i_m8, i_m5, i_m401, i_40, i_80, i_r40, i_s1, i_am1, i_sub, i_lt, i_le, i_eq, i_m1, il_le_0, il_ge_0, il_lt_0, il_gt_0, il_eq_0, il_le_1, il_ge_1, il_lt_1, il_gt_1, il_eq_1, il_le_2, il_ge_2, il_lt_2, il_gt_2, il_eq_2, il_le_3, il_ge_3, il_lt_3, il_gt_3, il_eq_3, il_le_4, il_ge_4, il_lt_4, il_gt_4, il_eq_4, il_le_5, il_ge_5, il_lt_5, il_gt_5, il_eq_5, il_le_6, il_ge_6, il_lt_6, il_gt_6, il_eq_6, il_le_7, il_ge_7, il_lt_7, il_gt_7, il_eq_7, il_le_8, il_ge_8, il_lt_8, il_gt_8, il_eq_8, il_le_12, il_ge_12, il_lt_12, il_gt_12, il_eq_12, il_le_16, il_ge_16, il_lt_16, il_gt_16, il_eq_16, il_le_20, il_ge_20, il_lt_20, il_gt_20, il_eq_20, il_le_21, il_ge_21, il_lt_21, il_gt_21, il_eq_21, il_le_40, il_ge_40, il_lt_40, il_gt_40, il_eq_40, il_le_100, il_ge_100, il_lt_100, il_gt_100, il_eq_100, il_le_120, il_ge_120, il_lt_120, il_gt_120, il_eq_120, il_le_200, il_ge_200, il_lt_200, il_gt_200, il_eq_200, il_le_400, il_ge_400, il_lt_400, il_gt_400, il_eq_400, il_le_700, il_ge_700, il_lt_700, il_gt_700, il_eq_700, em0, mv25, mw25, m_gO, m_isC, up_s, up_n, i_in, i_cl]
      refine ⟨fun _ => ?_, fun c => by omega⟩
      have he : (b, S) = _ := he
      rw [← he] at q
      exact c_bool (fun z => by subst z; exact q) (fun z => by subst z; exact q)
    | succ m ih =>
      intro i b S w1 w2 w3 w4 w5 w6 w7 hi hS he
      rw [u241_40]
      simp (decide := true) (disch := omega) only [↓u241_0, ↓u241_32, ↓u241_34, ↓u241_170, ↓u241_182, ↓u241_197, ↓u241_198, ↓u241_207, ↓u241_216, ↓u241_217, ↓x_nil, ↓x_om, ↓x_iload_1, ↓x_iconst_0, ↓x_bipush_7, ↓x_invokestatic, mt_13_237, x_ps0, x_ps1, x_l40, x_l41, x_l42, x_l43, x_l44, ↓x_cs3_1, ↓x_if_eq, ↓x_aload_0r, ↓x_aload_0n, ↓x_aload_0q, ↓x_iload_2, ↓x_iload_3, ↓x_invokevirtual, mt_13_514, ↓x_cv3, ↓x_if_ne, ↓x_iload_4, ↓x_iload_5, ↓x_iconst_m1, ↓x_ireturn, rt241, ↓x_iconst_1, ↓x_istore_6, x_cl_i, x_cl_r, x_cl_n, x_cl_q, x_cl_0, x_cl_l, ↓x_istore_7, ↓x_iload_7, mt_13_517, ↓x_cv1, ↓x_icmp_ge, mt_13_520, ↓x_cv2, ↓x_bipush_120, mt_13_446, ↓x_cv4, ↓x_istore_8, ↓x_getfield, ft_13_303, ↓x_istore_9, ↓x_istore_10, ↓x_istore_11, ↓x_bipush_121, mt_13_508, ↓x_istore_12, ↓x_istore_13, ↓x_istore_14, ↓x_iload_6, ↓x_iload_9, ↓x_icmp_ne, ↓x_iload_11, ↓x_iload_13, ↓x_iload_8, ↓x_iload_14, ↓x_iload_10, ↓x_iload_12, mt_13_505, ↓x_goto, ↓x_iand, ↓x_iinc_7_1, Int.reduceAdd, Nat.reduceAdd, true_and, and_true, true_or, or_true, false_or, or_false, reduceCtorEq, false_and, and_false, and_self, or_self, false_implies, true_implies, not_true_eq_false, not_false_eq_true, implies_true, Option.some.injEq, mv25, mw25, m_gO, m_isC, up_s, up_n, i_in, i_cl]
      refine c_smallMany hg ?_
      simp (decide := true) (disch := omega) only [↓u241_0, ↓u241_32, ↓u241_34, ↓u241_170, ↓u241_182, ↓u241_197, ↓u241_198, ↓u241_207, ↓u241_216, ↓u241_217, ↓x_nil, ↓x_om, ↓x_iload_1, ↓x_iconst_0, ↓x_bipush_7, ↓x_invokestatic, mt_13_237, x_ps0, x_ps1, x_l40, x_l41, x_l42, x_l43, x_l44, ↓x_cs3_1, ↓x_if_eq, ↓x_aload_0r, ↓x_aload_0n, ↓x_aload_0q, ↓x_iload_2, ↓x_iload_3, ↓x_invokevirtual, mt_13_514, ↓x_cv3, ↓x_if_ne, ↓x_iload_4, ↓x_iload_5, ↓x_iconst_m1, ↓x_ireturn, rt241, ↓x_iconst_1, ↓x_istore_6, x_cl_i, x_cl_r, x_cl_n, x_cl_q, x_cl_0, x_cl_l, ↓x_istore_7, ↓x_iload_7, mt_13_517, ↓x_cv1, ↓x_icmp_ge, mt_13_520, ↓x_cv2, ↓x_bipush_120, mt_13_446, ↓x_cv4, ↓x_istore_8, ↓x_getfield, ft_13_303, ↓x_istore_9, ↓x_istore_10, ↓x_istore_11, ↓x_bipush_121, mt_13_508, ↓x_istore_12, ↓x_istore_13, ↓x_istore_14, ↓x_iload_6, ↓x_iload_9, ↓x_icmp_ne, ↓x_iload_11, ↓x_iload_13, ↓x_iload_8, ↓x_iload_14, ↓x_iload_10, ↓x_iload_12, mt_13_505, ↓x_goto, ↓x_iand, ↓x_iinc_7_1, Int.reduceAdd, Nat.reduceAdd, true_and, and_true, true_or, or_true, false_or, or_false, reduceCtorEq, false_and, and_false, and_self, or_self, false_implies, true_implies, not_true_eq_false, not_false_eq_true, implies_true, Option.some.injEq, i_add, i_a1, i_m8, i_m5, i_m401, i_40, i_80, i_r40, i_s1, i_am1, i_sub, i_lt, i_le, i_eq, i_m1, il_le_0, il_ge_0, il_lt_0, il_gt_0, il_eq_0, il_le_1, il_ge_1, il_lt_1, il_gt_1, il_eq_1, il_le_2, il_ge_2, il_lt_2, il_gt_2, il_eq_2, il_le_3, il_ge_3, il_lt_3, il_gt_3, il_eq_3, il_le_4, il_ge_4, il_lt_4, il_gt_4, il_eq_4, il_le_5, il_ge_5, il_lt_5, il_gt_5, il_eq_5, il_le_6, il_ge_6, il_lt_6, il_gt_6, il_eq_6, il_le_7, il_ge_7, il_lt_7, il_gt_7, il_eq_7, il_le_8, il_ge_8, il_lt_8, il_gt_8, il_eq_8, il_le_12, il_ge_12, il_lt_12, il_gt_12, il_eq_12, il_le_16, il_ge_16, il_lt_16, il_gt_16, il_eq_16, il_le_20, il_ge_20, il_lt_20, il_gt_20, il_eq_20, il_le_21, il_ge_21, il_lt_21, il_gt_21, il_eq_21, il_le_40, il_ge_40, il_lt_40, il_gt_40, il_eq_40, il_le_100, il_ge_100, il_lt_100, il_gt_100, il_eq_100, il_le_120, il_ge_120, il_lt_120, il_gt_120, il_eq_120, il_le_200, il_ge_200, il_lt_200, il_gt_200, il_eq_200, il_le_400, il_ge_400, il_lt_400, il_gt_400, il_eq_400, il_le_700, il_ge_700, il_lt_700, il_gt_700, il_eq_700, em0, mv25, mw25, m_gO, m_isC, up_s, up_n, i_in, i_cl]
      refine ⟨fun c => by omega, fun _ => c_laySmall hg (by omega) ?_⟩
      simp (decide := true) (disch := omega) only [↓u241_0, ↓u241_32, ↓u241_34, ↓u241_170, ↓u241_182, ↓u241_197, ↓u241_198, ↓u241_207, ↓u241_216, ↓u241_217, ↓x_nil, ↓x_om, ↓x_iload_1, ↓x_iconst_0, ↓x_bipush_7, ↓x_invokestatic, mt_13_237, x_ps0, x_ps1, x_l40, x_l41, x_l42, x_l43, x_l44, ↓x_cs3_1, ↓x_if_eq, ↓x_aload_0r, ↓x_aload_0n, ↓x_aload_0q, ↓x_iload_2, ↓x_iload_3, ↓x_invokevirtual, mt_13_514, ↓x_cv3, ↓x_if_ne, ↓x_iload_4, ↓x_iload_5, ↓x_iconst_m1, ↓x_ireturn, rt241, ↓x_iconst_1, ↓x_istore_6, x_cl_i, x_cl_r, x_cl_n, x_cl_q, x_cl_0, x_cl_l, ↓x_istore_7, ↓x_iload_7, mt_13_517, ↓x_cv1, ↓x_icmp_ge, mt_13_520, ↓x_cv2, ↓x_bipush_120, mt_13_446, ↓x_cv4, ↓x_istore_8, ↓x_getfield, ft_13_303, ↓x_istore_9, ↓x_istore_10, ↓x_istore_11, ↓x_bipush_121, mt_13_508, ↓x_istore_12, ↓x_istore_13, ↓x_istore_14, ↓x_iload_6, ↓x_iload_9, ↓x_icmp_ne, ↓x_iload_11, ↓x_iload_13, ↓x_iload_8, ↓x_iload_14, ↓x_iload_10, ↓x_iload_12, mt_13_505, ↓x_goto, ↓x_iand, ↓x_iinc_7_1, Int.reduceAdd, Nat.reduceAdd, true_and, and_true, true_or, or_true, false_or, or_false, reduceCtorEq, false_and, and_false, and_self, or_self, false_implies, true_implies, not_true_eq_false, not_false_eq_true, implies_true, Option.some.injEq, mv25, mw25, m_gO, m_isC, up_s, up_n, i_in, i_cl]
      rw [y_trR] at he
      have f1 : ∀ S : m_S, 0 ≤ S.1 30 → 0 ≤ (y_work 120 k.toNatClampNeg a 1 S).2.1 30 := fun S => (z_frW (x := 120) (k := k.toNatClampNeg) (a := a) (b := 1) (S := S)).2.2
      have f2 : ∀ S : m_S, 0 ≤ S.1 30 → 0 ≤ (y_work 120 k2.toNatClampNeg a2 1 S).2.1 30 := fun S => (z_frW (x := 120) (k := k2.toNatClampNeg) (a := a2) (b := 1) (S := S)).2.2
      have t1 : 0 ≤ (y_lay s i S).1 30 := y_lyT hS
      have g1 := y_lyS (s := s) (i := i) (S := S)
      generalize hR1 : y_lay s i S = R1 at t1 g1
      refine c_workS hg h2 t1 g1 ?_
      have t2 := f1 _ t1
      have g2 := (z_szW (x := 120) (k := k.toNatClampNeg) (a := a) (b := 1) (S := R1) 120 (by decide) g1).1
      generalize hR2 : y_work 120 k.toNatClampNeg a 1 (R1.1, R1.2) = R2
      have hR2' : y_work 120 k.toNatClampNeg a 1 R1 = R2 := hR2
      rw [hR2'] at t2 g2
      simp (decide := true) (disch := omega) only [↓u241_0, ↓u241_32, ↓u241_34, ↓u241_170, ↓u241_182, ↓u241_197, ↓u241_198, ↓u241_207, ↓u241_216, ↓u241_217, ↓x_nil, ↓x_om, ↓x_iload_1, ↓x_iconst_0, ↓x_bipush_7, ↓x_invokestatic, mt_13_237, x_ps0, x_ps1, x_l40, x_l41, x_l42, x_l43, x_l44, ↓x_cs3_1, ↓x_if_eq, ↓x_aload_0r, ↓x_aload_0n, ↓x_aload_0q, ↓x_iload_2, ↓x_iload_3, ↓x_invokevirtual, mt_13_514, ↓x_cv3, ↓x_if_ne, ↓x_iload_4, ↓x_iload_5, ↓x_iconst_m1, ↓x_ireturn, rt241, ↓x_iconst_1, ↓x_istore_6, x_cl_i, x_cl_r, x_cl_n, x_cl_q, x_cl_0, x_cl_l, ↓x_istore_7, ↓x_iload_7, mt_13_517, ↓x_cv1, ↓x_icmp_ge, mt_13_520, ↓x_cv2, ↓x_bipush_120, mt_13_446, ↓x_cv4, ↓x_istore_8, ↓x_getfield, ft_13_303, ↓x_istore_9, ↓x_istore_10, ↓x_istore_11, ↓x_bipush_121, mt_13_508, ↓x_istore_12, ↓x_istore_13, ↓x_istore_14, ↓x_iload_6, ↓x_iload_9, ↓x_icmp_ne, ↓x_iload_11, ↓x_iload_13, ↓x_iload_8, ↓x_iload_14, ↓x_iload_10, ↓x_iload_12, mt_13_505, ↓x_goto, ↓x_iand, ↓x_iinc_7_1, Int.reduceAdd, Nat.reduceAdd, true_and, and_true, true_or, or_true, false_or, or_false, reduceCtorEq, false_and, and_false, and_self, or_self, false_implies, true_implies, not_true_eq_false, not_false_eq_true, implies_true, Option.some.injEq, mv25, mw25, m_gO, m_isC, up_s, up_n, i_in, i_cl]
      refine c_workS hg h3 t2 g2 ?_
      have t3 := f2 _ t2
      generalize hR3 : y_work 120 k2.toNatClampNeg a2 1 (R2.2.1, R2.2.2) = R3
      have hR3' : y_work 120 k2.toNatClampNeg a2 1 R2.2 = R3 := hR3
      rw [hR3'] at t3
      simp (decide := true) (disch := omega) only [↓u241_0, ↓u241_32, ↓u241_34, ↓u241_170, ↓u241_182, ↓u241_197, ↓u241_198, ↓u241_207, ↓u241_216, ↓u241_217, ↓x_nil, ↓x_om, ↓x_iload_1, ↓x_iconst_0, ↓x_bipush_7, ↓x_invokestatic, mt_13_237, x_ps0, x_ps1, x_l40, x_l41, x_l42, x_l43, x_l44, ↓x_cs3_1, ↓x_if_eq, ↓x_aload_0r, ↓x_aload_0n, ↓x_aload_0q, ↓x_iload_2, ↓x_iload_3, ↓x_invokevirtual, mt_13_514, ↓x_cv3, ↓x_if_ne, ↓x_iload_4, ↓x_iload_5, ↓x_iconst_m1, ↓x_ireturn, rt241, ↓x_iconst_1, ↓x_istore_6, x_cl_i, x_cl_r, x_cl_n, x_cl_q, x_cl_0, x_cl_l, ↓x_istore_7, ↓x_iload_7, mt_13_517, ↓x_cv1, ↓x_icmp_ge, mt_13_520, ↓x_cv2, ↓x_bipush_120, mt_13_446, ↓x_cv4, ↓x_istore_8, ↓x_getfield, ft_13_303, ↓x_istore_9, ↓x_istore_10, ↓x_istore_11, ↓x_bipush_121, mt_13_508, ↓x_istore_12, ↓x_istore_13, ↓x_istore_14, ↓x_iload_6, ↓x_iload_9, ↓x_icmp_ne, ↓x_iload_11, ↓x_iload_13, ↓x_iload_8, ↓x_iload_14, ↓x_iload_10, ↓x_iload_12, mt_13_505, ↓x_goto, ↓x_iand, ↓x_iinc_7_1, Int.reduceAdd, Nat.reduceAdd, true_and, and_true, true_or, or_true, false_or, or_false, reduceCtorEq, false_and, and_false, and_self, or_self, false_implies, true_implies, not_true_eq_false, not_false_eq_true, implies_true, Option.some.injEq, mv25, mw25, m_gO, m_isC, up_s, up_n, i_in, i_cl]
      refine c_copyTo (i := 120) (j := 121) hg (by decide) (by decide) (by decide) ?_
      simp (decide := true) (disch := omega) only [↓u241_0, ↓u241_32, ↓u241_34, ↓u241_170, ↓u241_182, ↓u241_197, ↓u241_198, ↓u241_207, ↓u241_216, ↓u241_217, ↓x_nil, ↓x_om, ↓x_iload_1, ↓x_iconst_0, ↓x_bipush_7, ↓x_invokestatic, mt_13_237, x_ps0, x_ps1, x_l40, x_l41, x_l42, x_l43, x_l44, ↓x_cs3_1, ↓x_if_eq, ↓x_aload_0r, ↓x_aload_0n, ↓x_aload_0q, ↓x_iload_2, ↓x_iload_3, ↓x_invokevirtual, mt_13_514, ↓x_cv3, ↓x_if_ne, ↓x_iload_4, ↓x_iload_5, ↓x_iconst_m1, ↓x_ireturn, rt241, ↓x_iconst_1, ↓x_istore_6, x_cl_i, x_cl_r, x_cl_n, x_cl_q, x_cl_0, x_cl_l, ↓x_istore_7, ↓x_iload_7, mt_13_517, ↓x_cv1, ↓x_icmp_ge, mt_13_520, ↓x_cv2, ↓x_bipush_120, mt_13_446, ↓x_cv4, ↓x_istore_8, ↓x_getfield, ft_13_303, ↓x_istore_9, ↓x_istore_10, ↓x_istore_11, ↓x_bipush_121, mt_13_508, ↓x_istore_12, ↓x_istore_13, ↓x_istore_14, ↓x_iload_6, ↓x_iload_9, ↓x_icmp_ne, ↓x_iload_11, ↓x_iload_13, ↓x_iload_8, ↓x_iload_14, ↓x_iload_10, ↓x_iload_12, mt_13_505, ↓x_goto, ↓x_iand, ↓x_iinc_7_1, Int.reduceAdd, Nat.reduceAdd, true_and, and_true, true_or, or_true, false_or, or_false, reduceCtorEq, false_and, and_false, and_self, or_self, false_implies, true_implies, not_true_eq_false, not_false_eq_true, implies_true, Option.some.injEq, mv25, mw25, m_gO, m_isC, up_s, up_n, i_in, i_cl]
      refine c_laySmall hg (by omega) ?_
      simp (decide := true) (disch := omega) only [↓u241_0, ↓u241_32, ↓u241_34, ↓u241_170, ↓u241_182, ↓u241_197, ↓u241_198, ↓u241_207, ↓u241_216, ↓u241_217, ↓x_nil, ↓x_om, ↓x_iload_1, ↓x_iconst_0, ↓x_bipush_7, ↓x_invokestatic, mt_13_237, x_ps0, x_ps1, x_l40, x_l41, x_l42, x_l43, x_l44, ↓x_cs3_1, ↓x_if_eq, ↓x_aload_0r, ↓x_aload_0n, ↓x_aload_0q, ↓x_iload_2, ↓x_iload_3, ↓x_invokevirtual, mt_13_514, ↓x_cv3, ↓x_if_ne, ↓x_iload_4, ↓x_iload_5, ↓x_iconst_m1, ↓x_ireturn, rt241, ↓x_iconst_1, ↓x_istore_6, x_cl_i, x_cl_r, x_cl_n, x_cl_q, x_cl_0, x_cl_l, ↓x_istore_7, ↓x_iload_7, mt_13_517, ↓x_cv1, ↓x_icmp_ge, mt_13_520, ↓x_cv2, ↓x_bipush_120, mt_13_446, ↓x_cv4, ↓x_istore_8, ↓x_getfield, ft_13_303, ↓x_istore_9, ↓x_istore_10, ↓x_istore_11, ↓x_bipush_121, mt_13_508, ↓x_istore_12, ↓x_istore_13, ↓x_istore_14, ↓x_iload_6, ↓x_iload_9, ↓x_icmp_ne, ↓x_iload_11, ↓x_iload_13, ↓x_iload_8, ↓x_iload_14, ↓x_iload_10, ↓x_iload_12, mt_13_505, ↓x_goto, ↓x_iand, ↓x_iinc_7_1, Int.reduceAdd, Nat.reduceAdd, true_and, and_true, true_or, or_true, false_or, or_false, reduceCtorEq, false_and, and_false, and_self, or_self, false_implies, true_implies, not_true_eq_false, not_false_eq_true, implies_true, Option.some.injEq, mv25, mw25, m_gO, m_isC, up_s, up_n, i_in, i_cl]
      have t5 : 0 ≤ (y_lay s i (R3.2.1, y_copy 120 121 R3.2.2)).1 30 := y_lyT t3
      have g5 := y_lyS (s := s) (i := i) (S := (R3.2.1, y_copy 120 121 R3.2.2))
      generalize hR5 : y_lay s i (R3.2.1, y_copy 120 121 R3.2.2) = R5 at t5 g5
      refine c_workS hg h3 t5 g5 ?_
      have t6 := f2 _ t5
      have g6 := (z_szW (x := 120) (k := k2.toNatClampNeg) (a := a2) (b := 1) (S := R5) 120 (by decide) g5).1
      generalize hR6 : y_work 120 k2.toNatClampNeg a2 1 (R5.1, R5.2) = R6
      have hR6' : y_work 120 k2.toNatClampNeg a2 1 R5 = R6 := hR6
      rw [hR6'] at t6 g6
      simp (decide := true) (disch := omega) only [↓u241_0, ↓u241_32, ↓u241_34, ↓u241_170, ↓u241_182, ↓u241_197, ↓u241_198, ↓u241_207, ↓u241_216, ↓u241_217, ↓x_nil, ↓x_om, ↓x_iload_1, ↓x_iconst_0, ↓x_bipush_7, ↓x_invokestatic, mt_13_237, x_ps0, x_ps1, x_l40, x_l41, x_l42, x_l43, x_l44, ↓x_cs3_1, ↓x_if_eq, ↓x_aload_0r, ↓x_aload_0n, ↓x_aload_0q, ↓x_iload_2, ↓x_iload_3, ↓x_invokevirtual, mt_13_514, ↓x_cv3, ↓x_if_ne, ↓x_iload_4, ↓x_iload_5, ↓x_iconst_m1, ↓x_ireturn, rt241, ↓x_iconst_1, ↓x_istore_6, x_cl_i, x_cl_r, x_cl_n, x_cl_q, x_cl_0, x_cl_l, ↓x_istore_7, ↓x_iload_7, mt_13_517, ↓x_cv1, ↓x_icmp_ge, mt_13_520, ↓x_cv2, ↓x_bipush_120, mt_13_446, ↓x_cv4, ↓x_istore_8, ↓x_getfield, ft_13_303, ↓x_istore_9, ↓x_istore_10, ↓x_istore_11, ↓x_bipush_121, mt_13_508, ↓x_istore_12, ↓x_istore_13, ↓x_istore_14, ↓x_iload_6, ↓x_iload_9, ↓x_icmp_ne, ↓x_iload_11, ↓x_iload_13, ↓x_iload_8, ↓x_iload_14, ↓x_iload_10, ↓x_iload_12, mt_13_505, ↓x_goto, ↓x_iand, ↓x_iinc_7_1, Int.reduceAdd, Nat.reduceAdd, true_and, and_true, true_or, or_true, false_or, or_false, reduceCtorEq, false_and, and_false, and_self, or_self, false_implies, true_implies, not_true_eq_false, not_false_eq_true, implies_true, Option.some.injEq, mv25, mw25, m_gO, m_isC, up_s, up_n, i_in, i_cl]
      refine c_workS hg h2 t6 g6 ?_
      have t7 := f1 _ t6
      generalize hR7 : y_work 120 k.toNatClampNeg a 1 (R6.2.1, R6.2.2) = R7
      have hR7' : y_work 120 k.toNatClampNeg a 1 R6.2 = R7 := hR7
      rw [hR7'] at t7
      have eT : y_tr1 s k a k2 a2 i S = (decide (R2.2.1 25 = R7.2.1 25) && decide (R3.2.1 25 = R6.2.1 25) && (decide (¬ R7.2.1 25 = 0) || decide (R2.1 = R7.1)) && (decide (¬ R3.2.1 25 = 0) || decide (R3.1 = R6.1)) && y_like R7.2.1 R7.2.2 120 121, R7.2) := by
        unfold y_tr1
        dsimp only
        rw [hR1, hR2', hR3', hR5, hR6', hR7']
      rw [eT] at he
      dsimp only at he
      generalize hP : (decide (R2.2.1 25 = R7.2.1 25) && decide (R3.2.1 25 = R6.2.1 25) && (decide (¬ R7.2.1 25 = 0) || decide (R2.1 = R7.1)) && (decide (¬ R3.2.1 25 = 0) || decide (R3.1 = R6.1))) = P at he
      have no : P = false → e_Sm g 241 13 cd241 Ψ 40 [some (.ref M), some (.int s), some (.int k), some (.int a), some (.int k2), some (.int a2), some (.int (b_v b &&& 0)), some (.int (nI i + 1)), some (.int R2.1), some (.int (R2.2.1 25)), some (.int R3.1), some (.int (R3.2.1 25)), some (.int R6.1), some (.int (R6.2.1 25)), some (.int R7.1)] [] (m_H M R7.2.1 R7.2.2 h) := by
        intro z
        subst z
        have e0 : b_v b &&& 0 = b_v false := by cases b <;> decide
        rw [e0, i_a1]
        refine ih (i + 1) false R7.2 _ _ _ _ _ _ _ (by omega) t7 ?_
        rw [← he, Bool.false_and, Bool.and_false]
      have yes : P = true → ∀ Φ : e_Q, (∀ x : Bool, (e_Sm g 241 13 cd241 Ψ 40 [some (.ref M), some (.int s), some (.int k), some (.int a), some (.int k2), some (.int a2), some (.int (b_v (b && x))), some (.int (nI i + 1)), some (.int R2.1), some (.int (R2.2.1 25)), some (.int R3.1), some (.int (R3.2.1 25)), some (.int R6.1), some (.int (R6.2.1 25)), some (.int R7.1)] [] (m_H M R7.2.1 R7.2.2 h)) → Φ (some (.int (b_v x))) (m_H M R7.2.1 R7.2.2 h)) → e_Sc g 158 [.ref M, .int 120, .int 121] (m_H M R7.2.1 R7.2.2 h) Φ := by
        intro z Φ kk
        subst z
        refine c_isLike (x := 120) (y := 121) hg (by decide) (by decide) (kk _ ?_)
        rw [i_a1]
        refine ih (i + 1) _ R7.2 _ _ _ _ _ _ _ (by omega) t7 ?_
        rw [← he, Bool.true_and]
      simp (decide := true) (disch := omega) only [↓u241_0, ↓u241_32, ↓u241_34, ↓u241_170, ↓u241_182, ↓u241_197, ↓u241_198, ↓u241_207, ↓u241_216, ↓u241_217, ↓x_nil, ↓x_om, ↓x_iload_1, ↓x_iconst_0, ↓x_bipush_7, ↓x_invokestatic, mt_13_237, x_ps0, x_ps1, x_l40, x_l41, x_l42, x_l43, x_l44, ↓x_cs3_1, ↓x_if_eq, ↓x_aload_0r, ↓x_aload_0n, ↓x_aload_0q, ↓x_iload_2, ↓x_iload_3, ↓x_invokevirtual, mt_13_514, ↓x_cv3, ↓x_if_ne, ↓x_iload_4, ↓x_iload_5, ↓x_iconst_m1, ↓x_ireturn, rt241, ↓x_iconst_1, ↓x_istore_6, x_cl_i, x_cl_r, x_cl_n, x_cl_q, x_cl_0, x_cl_l, ↓x_istore_7, ↓x_iload_7, mt_13_517, ↓x_cv1, ↓x_icmp_ge, mt_13_520, ↓x_cv2, ↓x_bipush_120, mt_13_446, ↓x_cv4, ↓x_istore_8, ↓x_getfield, ft_13_303, ↓x_istore_9, ↓x_istore_10, ↓x_istore_11, ↓x_bipush_121, mt_13_508, ↓x_istore_12, ↓x_istore_13, ↓x_istore_14, ↓x_iload_6, ↓x_iload_9, ↓x_icmp_ne, ↓x_iload_11, ↓x_iload_13, ↓x_iload_8, ↓x_iload_14, ↓x_iload_10, ↓x_iload_12, mt_13_505, ↓x_goto, ↓x_iand, ↓x_iinc_7_1, Int.reduceAdd, Nat.reduceAdd, true_and, and_true, true_or, or_true, false_or, or_false, reduceCtorEq, false_and, and_false, and_self, or_self, false_implies, true_implies, not_true_eq_false, not_false_eq_true, implies_true, Option.some.injEq, mv25, mw25, m_gO, m_isC, up_s, up_n, i_in, i_cl]
      have kk : ∀ x : Bool, (e_Sm g 241 13 cd241 Ψ 40 [some (.ref M), some (.int s), some (.int k), some (.int a), some (.int k2), some (.int a2), some (.int (b_v (b && x))), some (.int (nI i + 1)), some (.int R2.1), some (.int (R2.2.1 25)), some (.int R3.1), some (.int (R3.2.1 25)), some (.int R6.1), some (.int (R6.2.1 25)), some (.int R7.1)] [] (m_H M R7.2.1 R7.2.2 h)) → (b_v x = 0 → e_Sm g 241 13 cd241 Ψ 40 [some (.ref M), some (.int s), some (.int k), some (.int a), some (.int k2), some (.int a2), some (.int (b_v b &&& 0)), some (.int (nI i + 1)), some (.int R2.1), some (.int (R2.2.1 25)), some (.int R3.1), some (.int (R3.2.1 25)), some (.int R6.1), some (.int (R6.2.1 25)), some (.int R7.1)] [] (m_H M R7.2.1 R7.2.2 h)) ∧ (¬ b_v x = 0 → e_Sm g 241 13 cd241 Ψ 40 [some (.ref M), some (.int s), some (.int k), some (.int a), some (.int k2), some (.int a2), some (.int (b_v b &&& 1)), some (.int (nI i + 1)), some (.int R2.1), some (.int (R2.2.1 25)), some (.int R3.1), some (.int (R3.2.1 25)), some (.int R6.1), some (.int (R6.2.1 25)), some (.int R7.1)] [] (m_H M R7.2.1 R7.2.2 h)) := by
        intro x q
        refine c_bool (fun z => ?_) (fun z => ?_)
        · subst z
          have e0 : b_v b &&& 1 = b_v (b && true) := by cases b <;> decide
          rw [e0]; exact q
        · subst z
          have e0 : b_v b &&& 0 = b_v (b && false) := by cases b <;> decide
          rw [e0]; exact q
      refine ⟨fun c1 => ⟨fun c2 => ⟨fun c3 => ⟨fun c4 => ⟨fun c5 => ⟨fun c6 => yes ?_ _ (fun x q => ?_), fun c6 => no ?_⟩, fun c5 => yes ?_ _ (fun x q => ?_)⟩, fun c4 => no ?_⟩, fun c3 => ⟨fun c5 => ⟨fun c6 => yes ?_ _ (fun x q => ?_), fun c6 => no ?_⟩, fun c5 => yes ?_ _ (fun x q => ?_)⟩⟩, fun c2 => no ?_⟩, fun c1 => no ?_⟩
      all_goals first | (clear no yes kk he ih eT q; subst hP; simp_all; done) | (rw [← hP]; simp only [*, decide_true, decide_false, not_true_eq_false, not_false_eq_true, Bool.and_true, Bool.true_and, Bool.or_true, Bool.true_or, Bool.or_false, Bool.false_or, Bool.and_false, Bool.false_and]; done) | skip
      all_goals (
        simp (decide := true) (disch := omega) only [↓u241_0, ↓u241_32, ↓u241_34, ↓u241_170, ↓u241_182, ↓u241_197, ↓u241_198, ↓u241_207, ↓u241_216, ↓u241_217, ↓x_nil, ↓x_om, ↓x_iload_1, ↓x_iconst_0, ↓x_bipush_7, ↓x_invokestatic, mt_13_237, x_ps0, x_ps1, x_l40, x_l41, x_l42, x_l43, x_l44, ↓x_cs3_1, ↓x_if_eq, ↓x_aload_0r, ↓x_aload_0n, ↓x_aload_0q, ↓x_iload_2, ↓x_iload_3, ↓x_invokevirtual, mt_13_514, ↓x_cv3, ↓x_if_ne, ↓x_iload_4, ↓x_iload_5, ↓x_iconst_m1, ↓x_ireturn, rt241, ↓x_iconst_1, ↓x_istore_6, x_cl_i, x_cl_r, x_cl_n, x_cl_q, x_cl_0, x_cl_l, ↓x_istore_7, ↓x_iload_7, mt_13_517, ↓x_cv1, ↓x_icmp_ge, mt_13_520, ↓x_cv2, ↓x_bipush_120, mt_13_446, ↓x_cv4, ↓x_istore_8, ↓x_getfield, ft_13_303, ↓x_istore_9, ↓x_istore_10, ↓x_istore_11, ↓x_bipush_121, mt_13_508, ↓x_istore_12, ↓x_istore_13, ↓x_istore_14, ↓x_iload_6, ↓x_iload_9, ↓x_icmp_ne, ↓x_iload_11, ↓x_iload_13, ↓x_iload_8, ↓x_iload_14, ↓x_iload_10, ↓x_iload_12, mt_13_505, ↓x_goto, ↓x_iand, ↓x_iinc_7_1, Int.reduceAdd, Nat.reduceAdd, true_and, and_true, true_or, or_true, false_or, or_false, reduceCtorEq, false_and, and_false, and_self, or_self, false_implies, true_implies, not_true_eq_false, not_false_eq_true, implies_true, Option.some.injEq, mv25, mw25, m_gO, m_isC, up_s, up_n, i_in, i_cl]
        exact kk x q)
  exact lp m0 0 true (F, A) _ _ _ _ _ _ _ (by omega) ht rfl
end MN
