/-! the log, acts and things: the relation's core -/
abbrev m_A : Type := Nat → Nat → Int32
section RI
variable {Z Z' : k_Z} {U U' : k_U} {P P' P'' P1 : k_P} {S S' S'' S1 : m_S} {own n b nr t o k i : Nat} {A : m_A} {F : Nat → Int32} {ch : Nat → List Nat}
/-- the address of a deal -/
def dl (U : k_U) (own t : Nat) : Nat := (U.2.1 (own + 14)).getD (t - 1) 0
/-- how many objects were made before a row -/
def md (A : m_A) (i : Nat) : Nat := y_cw (A 17) 0 0 i
def ar (A : m_A) (i : Nat) : Nat := (A 42 i).toNatClampNeg
def I_row (b : Nat) (A : m_A) (i : Nat) : Prop :=
  (A 17 i = 0 → A 19 i = nI (md A i) ∧ A 20 i = A 4 (md A i) ∧ A 22 i = A 5 (md A i) ∧ A 6 (md A i) = (if A 4 (md A i) = 7 then -1 else A 21 i) ∧ (k_hv (A 4 (md A i)) = false → A 21 i = 0)) ∧
  (A 17 i = 2 → ∃ t o k, A 18 i = nI t ∧ 1 ≤ t ∧ t ≤ b ∧ A 19 i = nI o ∧ o < md A i ∧ A 20 i = nI k ∧ k < 22 ∧ ar_R (md A i) o k (A 21 i) (A 22 i) ∧ y_has (A 4 o) (nI k) = true ∧ (k = 17 → A 23 i = -1 ∨ ∃ q, q < md A i ∧ A 23 i = nI q) ∧ (k = 18 → ∃ q, q < md A i ∧ A 22 i = nI q ∧ (A 4 q = 1 ∨ A 4 q = 6)) ∧ (k = 19 → ∃ q, q < md A i ∧ q ≠ o ∧ A 22 i = nI q ∧ A 4 q = 6)) ∧
  (A 17 i = 4 → ∃ t, A 18 i = nI t ∧ 1 ≤ t ∧ t ≤ b)
/-- a row of the class is the reference's -/
def lg_row (P : k_P) (x : Nat) (A : m_A) (i : Nat) : Prop := P.1 140 x = A 17 i ∧ P.1 141 x = A 18 i ∧ P.1 142 x = A 19 i ∧ P.1 143 x = A 20 i ∧ P.1 144 x = A 21 i ∧ P.1 145 x = A 22 i ∧ P.1 146 x = A 23 i ∧ P.1 147 x = A 24 i
/-- acts, one behind another -/
def cl (A : m_A) : Int32 → List Nat → Prop
  | _, [] => True
  | v, i :: r => v = nI i ∧ cl A (A 43 i) r
/-- an act that stands, and its row -/
def I_act (nr na : Nat) (A : m_A) (t i : Nat) : Prop := i < na ∧ A 42 i = nI (ar A i) ∧ ar A i < nr ∧ A 17 (ar A i) = 2 ∧ A 18 (ar A i) = nI t ∧ A 35 i = A 19 (ar A i) ∧ A 36 i = A 20 (ar A i) ∧ A 37 i = A 21 (ar A i) ∧ A 38 i = A 22 (ar A i) ∧ A 39 i = A 23 (ar A i) ∧ (A 36 i = 3 ∨ A 36 i = 17 → A 39 i = A 40 i) ∧ (A 41 i = 0 ∨ A 41 i = 1)
def I_chn (nr na : Nat) (A : m_A) (t : Nat) (l : List Nat) : Prop := A 52 t = nI l.length ∧ l.length ≤ 600 ∧ cl A (A 53 t) l ∧ (∀ i ∈ l, I_act nr na A t i) ∧ l.Pairwise (fun i j => ar A j < ar A i)
/-- queues: what undoing in this order finds -/
def sw (A : m_A) : Nat → List Nat → Prop
  | _, [] => True
  | z, i :: r => if A 36 i = 8 then 1 ≤ z ∧ sw A (z - 1) r else z < 8 ∧ sw A (z + 1) r
def qs (A : m_A) (o : Nat) (l : List Nat) : List Nat := l.filter (fun i => decide (A 35 i = nI o) && (decide (A 36 i = 8) || decide (A 36 i = 9)))
def mw (A : m_A) : Bool → List Nat → Prop
  | _, [] => True
  | v, i :: r => if A 36 i = 12 then (A 41 i = 0 ∨ v = true) ∧ mw A (decide (¬ A 41 i = 0)) r else mw A true r
def ms (A : m_A) (o q : Nat) (l : List Nat) : List Nat := l.filter (fun i => decide (A 35 i = nI o) && (decide (A 36 i = 12) || decide (A 36 i = 13)) && decide (A 37 i = nI q))
def I_dy (n : Nat) (A : m_A) (l : List Nat) : Prop := ∀ o, o < n → (A 4 o = 4 → ∀ z, z ≤ 8 → A 10 o = nI z → sw A z (qs A o l)) ∧ (A 4 o = 5 → ∀ q, q < 8 → mw A (k_b (A 11 o) q) (ms A o q l))
/-- two acts of which one keeps the other away -/
def xc (A : m_A) (i j : Nat) : Prop := A 35 i = A 35 j ∧ (((A 36 i = 8 ∨ A 36 i = 9) ∧ (A 36 j = 8 ∨ A 36 j = 9)) ∨ ((A 36 i = 12 ∨ A 36 i = 13) ∧ (A 36 j = 12 ∨ A 36 j = 13) ∧ A 37 i = A 37 j))
def undw (A : m_A) (t : Nat) : Prop := A 47 t = 1 ∨ A 47 t = 2
/-- the reference's log and acts -/
def I_lg (n b nr na : Nat) (ch : Nat → List Nat) (S : m_S) : Prop :=
  S.1 13 = nI nr ∧ n = md S.2 nr ∧ R_ob n S.2 ∧ S.1 33 = nI na ∧ na ≤ 600 ∧ (∀ i, i < nr → I_row b S.2 i) ∧
  (∀ t, 1 ≤ t → t ≤ b → undw S.2 t ∨ S.2 47 t = 3 → I_chn nr na S.2 t (ch t)) ∧
  (∀ t, 1 ≤ t → t ≤ b → undw S.2 t → I_dy n S.2 (ch t)) ∧
  (∀ t t', 1 ≤ t → t ≤ b → 1 ≤ t' → t' ≤ b → undw S.2 t → undw S.2 t' → t ≠ t' → ∀ i ∈ ch t, ∀ j ∈ ch t', ¬ xc S.2 i j) ∧ w_sz S.2
/-- the class's log -/
def K_lg (own b nr : Nat) (ch : Nat → List Nat) (P : k_P) (U : k_U) (S : m_S) : Prop :=
  (U.2.1 (own + 18)).length = nr ∧ (U.2.1 (own + 18)).Nodup ∧ (∀ i x, (U.2.1 (own + 18))[i]? = some x → lg_row P x S.2 i ∧ (P.1 149 x = 0 ∨ P.1 149 x = 1)) ∧
  (∀ t, 1 ≤ t → t ≤ b → undw S.2 t ∨ S.2 47 t = 3 → ∀ ρ x, (U.2.1 (own + 18))[ρ]? = some x → S.2 17 ρ = 2 → S.2 18 ρ = nI t → (P.1 149 x = 0 ↔ ∃ i ∈ ch t, ar S.2 i = ρ)) ∧
  (∀ t, 1 ≤ t → t ≤ b → undw S.2 t ∨ S.2 47 t = 3 → ∀ i ∈ ch t, ∀ x, (U.2.1 (own + 18))[ar S.2 i]? = some x → (S.2 36 i = 2 → P.1 148 x = S.2 40 i) ∧ (S.2 36 i = 12 → S.2 41 i = P.1 148 x))
theorem krv_2 {t c : Nat} {k a x y : Int32} (h : c ≠ t + 1) : (k_rev P t k a x y).2 c = P.2 c := by
  unfold k_rev k_putF k_putB
  dsimp only
  repeat' split
  all_goals first | rfl | (rw [k_r2, k_an h])
theorem krvS_1 {s n r f c : Nat} (h : f ≠ 223) : (k_revS P U s n r).1 f c = P.1 f c := by
  unfold k_revS
  repeat' split
  all_goals first | rfl | (rw [krv_1 h, krv_1 h]; done) | rw [krv_1 h]
theorem krvS_2 {s n r c : Nat} (hn : n ≤ 40) (h : ∀ o, o < n → c ≠ k_th U s o + 1) : (k_revS P U s n r).2 c = P.2 c := by
  have g : ∀ v x, k_tO U s n v = some x → c ≠ x + 1 := fun v x e => by
    rcases k_tO_cases (U := U) (s := s) (o := v) hn with e' | ⟨j, _, hj, e'⟩
    · rw [e'] at e; cases e
    · rw [e'] at e; cases e; exact h j hj
  unfold k_revS
  cases e1 : k_tO U s n (P.1 142 r) with
  | none =>
    cases e2 : k_tO U s n (P.1 145 r) with
    | none => rfl
    | some y =>
      dsimp only
      split
      · exact krv_2 (g _ _ e2)
      · rfl
  | some x =>
    cases e2 : k_tO U s n (P.1 145 r) with
    | none => exact krv_2 (g _ _ e1)
    | some y =>
      dsimp only
      split
      · exact krv_2 (g _ _ e2)
      · split
        · rw [krv_2 (g _ _ e1), krv_2 (g _ _ e2)]
        · exact krv_2 (g _ _ e1)
theorem cl_cg {A' : m_A} : ∀ (l : List Nat) (v : Int32), (∀ i ∈ l, A' 43 i = A 43 i) → cl A v l → cl A' v l
  | [], _, _, _ => trivial
  | i :: r, v, h, hc => ⟨hc.1, by rw [h i List.mem_cons_self]; exact cl_cg r _ (fun j hj => h j (List.mem_cons_of_mem _ hj)) hc.2⟩
theorem sw_cg {A' : m_A} (h : A' 36 = A 36) : ∀ (l : List Nat) (z : Nat), sw A z l → sw A' z l
  | [], _, _ => trivial
  | i :: r, z, hc => by
    unfold sw at hc ⊢
    rw [h]
    split at hc
    · rename_i c; rw [if_pos c]; exact ⟨hc.1, sw_cg h r _ hc.2⟩
    · rename_i c; rw [if_neg c]; exact ⟨hc.1, sw_cg h r _ hc.2⟩
theorem mw_cg {A' : m_A} (h : A' 36 = A 36) (h2 : A' 41 = A 41) : ∀ (l : List Nat) (z : Bool), mw A z l → mw A' z l
  | [], _, _ => trivial
  | i :: r, z, hc => by
    unfold mw at hc ⊢
    rw [h, h2]
    split at hc
    · rename_i c; rw [if_pos c]; exact ⟨hc.1, mw_cg h h2 r _ hc.2⟩
    · rename_i c; rw [if_neg c]; exact mw_cg h h2 r _ hc
theorem y_cw_cg {f g : Nat → Int32} {w : Int32} : ∀ (m i : Nat), (∀ j, i ≤ j → j < i + m → f j = g j) → y_cw f w i m = y_cw g w i m
  | 0, _, _ => rfl
  | m + 1, i, h => by
    unfold y_cw
    rw [h i (Nat.le_refl _) (by omega), y_cw_cg m (i + 1) (fun j h1 h2 => h j (by omega) (by omega))]
theorem y_cw_s {f : Nat → Int32} {w : Int32} : ∀ (m i : Nat), y_cw f w i (m + 1) = y_cw f w i m + (if f (i + m) = w then 1 else 0)
  | 0, i => by simp [y_cw]
  | m + 1, i => by
    rw [y_cw, y_cw_s m (i + 1), y_cw, show i + 1 + m = i + (m + 1) by omega]
    omega
theorem y_cw_mono {f : Nat → Int32} {w : Int32} {i m m' : Nat} (h : m ≤ m') : y_cw f w i m ≤ y_cw f w i m' := by
  induction h with
  | refl => exact Nat.le_refl _
  | step _ ih => rw [y_cw_s]; omega
theorem md_mono {i j : Nat} (h : i ≤ j) : md A i ≤ md A j := y_cw_mono h
theorem ar_mono {n n' o k : Nat} {a b : Int32} (h : n ≤ n') (r : ar_R n o k a b) : ar_R n' o k a b := by
  obtain ⟨a1, a2, a3, a4, a5⟩ := r
  refine ⟨a1, a2, a3, fun z => ?_, fun z => ?_⟩
  · rcases a4 z with e | ⟨q, hq, e⟩
    · exact Or.inl e
    · exact Or.inr ⟨q, Nat.lt_of_lt_of_le hq h, e⟩
  · obtain ⟨q, hq, e⟩ := a5 z
    exact ⟨q, Nat.lt_of_lt_of_le hq h, e⟩
end RI
