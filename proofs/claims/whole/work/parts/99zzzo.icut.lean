/-! cut: the reference -/
section VR
variable {S S' : m_S} {n b l nl nw nr na ne c T ν no ne' : Nat} {ch : Nat → List Nat}
/-- whom a cut undoes -/
def Cb (S : m_S) (ν t : Nat) : Bool := decide (S.2 47 t ≤ 2) || (decide (S.2 47 t = 3) && decide (nI ν ≤ S.2 59 t))
/-- how many of m from t on -/
def cnB (C : Nat → Bool) (t : Nat) : Nat → Nat
  | 0 => 0
  | m + 1 => (if C t = true then 1 else 0) + cnB C (t + 1) m
theorem cnB_cg {C C' : Nat → Bool} : ∀ (m t : Nat), (∀ u, t ≤ u → u < t + m → C u = C' u) → cnB C t m = cnB C' t m
  | 0, _, _ => rfl
  | m + 1, t, h => by
    rw [cnB, cnB, h t (Nat.le_refl _) (by omega), cnB_cg m (t + 1) (fun u h1 h2 => h u (by omega) (by omega))]
theorem cnB_le {C : Nat → Bool} : ∀ (m t : Nat), cnB C t m ≤ m
  | 0, _ => Nat.le_refl _
  | m + 1, t => by
    have := cnB_le (C := C) m (t + 1)
    rw [cnB]
    split <;> omega
/-- one more -/
theorem cnB_up {C : Nat → Bool} {x : Nat} : ∀ (m t : Nat), C x = false → t ≤ x → x < t + m → cnB (fun u => C u || decide (u = x)) t m = cnB C t m + 1
  | 0, _, _, _, _ => by omega
  | m + 1, t, h, h1, h2 => by
    rw [cnB, cnB]
    by_cases e : t = x
    · subst e
      rw [h, cnB_cg (C' := C) m (t + 1) (fun u h1 h2 => by rw [decide_eq_false (by omega), Bool.or_false])]
      simp
      omega
    · rw [cnB_up m (t + 1) h (by omega) (by omega), decide_eq_false e, Bool.or_false]
      omega
def fp_cu : List Nat := [47, 48, 51, 52, 53, 58]
def cuV (f : Nat) : Int32 := if f = 47 ∨ f = 48 then 4 else if f = 51 ∨ f = 52 then 0 else -9
/-- those who are cut, in the reference -/
def CuA (C : Nat → Bool) (b : Nat) (A A' : m_A) : Prop := (∀ f, f ∉ fp_cu → A' f = A f) ∧ ∀ f ∈ fp_cu, ∀ u, A' f u = if 1 ≤ u ∧ u ≤ b ∧ C u = true then cuV f else A f u
theorem cu_ok {ν : Nat} : ∀ (m t : Nat) (S : m_S), S.1 13 = nI ν → (y_cu t m S).1 62 = S.1 62 + nI (cnB (Cb S ν) t m) ∧ (∀ f, f ∉ fp_cu → (y_cu t m S).2 f = S.2 f) ∧ ∀ f ∈ fp_cu, ∀ u, (y_cu t m S).2 f u = if t ≤ u ∧ u < t + m ∧ Cb S ν u = true then cuV f else S.2 f u
  | 0, t, S, _ => ⟨by rw [cnB]; exact (Int32.add_zero _).symm, fun _ _ => rfl, fun f _ u => by rw [if_neg (by omega)]; rfl⟩
  | m + 1, t, S, hr => by
    have cond : (S.2 47 t ≤ 2 ∨ (S.2 47 t = 3 ∧ S.1 13 ≤ S.2 59 t)) ↔ Cb S ν t = true := by
      unfold Cb
      rw [Bool.or_eq_true, Bool.and_eq_true, decide_eq_true_eq, decide_eq_true_eq, decide_eq_true_eq, hr]
    have one : (∀ f, f ∉ fp_cu → (y_cu1 t S).2 f = S.2 f) ∧ ∀ f ∈ fp_cu, ∀ u, (y_cu1 t S).2 f u = if u = t ∧ Cb S ν t = true then cuV f else S.2 f u := by
      unfold y_cu1
      by_cases cc : Cb S ν t = true
      · rw [if_pos (cond.mpr cc)]
        refine ⟨fun f hf => ?_, fun f hf u => ?_⟩
        · dsimp only
          rw [up_n (nmem hf (by decide)), up_n (nmem hf (by decide)), up_n (nmem hf (by decide)), up_n (nmem hf (by decide)), up_n (nmem hf (by decide)), up_n (nmem hf (by decide))]
        · dsimp only
          unfold fp_cu at hf
          simp only [List.mem_cons, List.not_mem_nil, or_false] at hf
          by_cases cu : u = t
          · subst cu
            rw [if_pos ⟨rfl, cc⟩]
            rcases hf with h | h | h | h | h | h <;> subst h <;> simp (decide := true) only [up_n, up_s, ne_eq, not_false_eq_true] <;> rfl
          · rw [if_neg (fun z => cu z.1)]
            rcases hf with h | h | h | h | h | h <;> subst h <;> simp (decide := true) only [up_n, up_s, ne_eq, not_false_eq_true, cu]
      · rw [if_neg (fun z => cc (cond.mp z))]
        exact ⟨fun _ _ => rfl, fun f _ u => by rw [if_neg (fun z => cc z.2)]⟩
    have gone : (y_cu1 t S).1 62 = S.1 62 + nI (if Cb S ν t = true then 1 else 0) := by
      unfold y_cu1
      by_cases cc : Cb S ν t = true
      · rw [if_pos (cond.mpr cc), if_pos cc]; dsimp only; rw [up_s]; rfl
      · rw [if_neg (fun z => cc (cond.mp z)), if_neg cc]; exact (Int32.add_zero _).symm
    have rows' : (y_cu1 t S).1 13 = nI ν := by
      unfold y_cu1
      split
      · dsimp only; rw [up_n (by decide)]; exact hr
      · exact hr
    have Ceq : ∀ u, u ≠ t → Cb (y_cu1 t S) ν u = Cb S ν u := fun u hu => by
      unfold Cb
      rw [one.2 47 (by decide), if_neg (fun z => hu z.1), one.1 59 (by decide)]
    obtain ⟨i1, i2, i3⟩ := cu_ok (ν := ν) m (t + 1) (y_cu1 t S) rows'
    rw [y_cu]
    refine ⟨?_, fun f hf => (i2 f hf).trans (one.1 f hf), fun f hf u => ?_⟩
    · rw [i1, gone, cnB, cnB_cg (C' := Cb S ν) m (t + 1) (fun u h1 h2 => Ceq u (by omega)), Int32.add_assoc, nI_add]
    · rw [i3 f hf u, one.2 f hf u]
      by_cases cu : u = t
      · subst cu
        rw [if_neg (by omega)]
        by_cases cc : Cb S ν u = true
        · rw [if_pos ⟨rfl, cc⟩, if_pos ⟨Nat.le_refl _, by omega, cc⟩]
        · rw [if_neg (fun z => cc z.2), if_neg (fun z => cc z.2.2)]
      · rw [Ceq u cu, if_neg (c := u = t ∧ Cb S ν t = true) (fun z => cu z.1)]
        by_cases cc : t + 1 ≤ u ∧ u < t + 1 + m ∧ Cb S ν u = true
        · rw [if_pos cc, if_pos ⟨by omega, by omega, cc.2.2⟩]
        · rw [if_neg cc, if_neg (fun z => cc ⟨by omega, by omega, z.2.2⟩)]
/-- the reference behind a cut, ahead of what is done again -/
def fp_ctF : List Nat := [13, 14, 15, 3, 60, 32, 62, 45, 72, 80, 93]
def CtF (ν no ne' b : Nat) (S S' : m_S) : Prop := S'.1 13 = nI ν ∧ S'.1 14 = nI ν ∧ S'.1 15 = 0 ∧ S'.1 3 = nI no ∧ S'.1 60 = nI ne' ∧ S'.1 32 = nI no ∧ S'.1 62 = S.1 62 + nI (cnB (Cb S ν) 1 b) ∧ S'.1 45 = 0 ∧ S'.1 72 = 0 ∧ S'.1 80 = 0 ∧ S'.1 93 = 0
theorem ct2_ok (hno : y_cw (S.2 17) 0 0 ν = no) (hne : y_cw (S.2 17) 4 0 ν = ne') : CtF ν no ne' b S (y_ct2 (y_cu 1 b (y_ct0 ν S))) ∧ (∀ f, f ∉ fp_ctF → (y_ct2 (y_cu 1 b (y_ct0 ν S))).1 f = S.1 f) ∧ CuA (Cb S ν) b S.2 (y_ct2 (y_cu 1 b (y_ct0 ν S))).2 := by
  have r0 : (y_ct0 ν S).1 13 = nI ν := by unfold y_ct0; simp (decide := true) only [up_n, up_s, ne_eq, not_false_eq_true]
  obtain ⟨q1, q2, q3⟩ := cu_ok (ν := ν) b 1 (y_ct0 ν S) r0
  have e0 : (y_ct0 ν S).2 = S.2 := rfl
  have C0 : Cb (y_ct0 ν S) ν = Cb S ν := rfl
  have uF : ∀ f, f ≠ 62 → (y_cu 1 b (y_ct0 ν S)).1 f = (y_ct0 ν S).1 f := fun f hf => y_cuF hf b 1 _
  rw [C0] at q1 q3
  refine ⟨⟨?_, ?_, ?_, ?_, ?_, ?_, ?_, ?_, ?_, ?_, ?_⟩, fun f hf => ?_, fun f hf => (q2 f hf).trans rfl, fun f hf u => ?_⟩
  · unfold y_ct2; simp (decide := true) only [up_n, up_s, ne_eq, not_false_eq_true]; rw [uF _ (by decide)]; exact r0
  · unfold y_ct2; simp (decide := true) only [up_n, up_s, ne_eq, not_false_eq_true]; rw [uF _ (by decide)]; unfold y_ct0; simp (decide := true) only [up_n, up_s, ne_eq, not_false_eq_true]
  · unfold y_ct2; simp (decide := true) only [up_n, up_s, ne_eq, not_false_eq_true]; rw [uF _ (by decide)]; unfold y_ct0; simp (decide := true) only [up_n, up_s, ne_eq, not_false_eq_true]
  · unfold y_ct2; simp (decide := true) only [up_n, up_s, ne_eq, not_false_eq_true]; rw [uF _ (by decide)]; unfold y_ct0; simp (decide := true) only [up_n, up_s, ne_eq, not_false_eq_true]; rw [hno]
  · unfold y_ct2; simp (decide := true) only [up_n, up_s, ne_eq, not_false_eq_true]; rw [uF _ (by decide)]; unfold y_ct0; simp (decide := true) only [up_n, up_s, ne_eq, not_false_eq_true]; rw [hne]
  · unfold y_ct2; simp (decide := true) only [up_n, up_s, ne_eq, not_false_eq_true]; rw [uF _ (by decide)]; unfold y_ct0; simp (decide := true) only [up_n, up_s, ne_eq, not_false_eq_true]; rw [hno]
  · unfold y_ct2; simp (decide := true) only [up_n, up_s, ne_eq, not_false_eq_true]; rw [q1]; unfold y_ct0; simp (decide := true) only [up_n, up_s, ne_eq, not_false_eq_true]
  · unfold y_ct2; simp (decide := true) only [up_n, up_s, ne_eq, not_false_eq_true]
  · unfold y_ct2; simp (decide := true) only [up_n, up_s, ne_eq, not_false_eq_true]
  · unfold y_ct2; simp (decide := true) only [up_n, up_s, ne_eq, not_false_eq_true]
  · unfold y_ct2; simp (decide := true) only [up_n, up_s, ne_eq, not_false_eq_true]
  · unfold y_ct2
    dsimp only
    rw [up_n (nmem hf (by decide)), up_n (nmem hf (by decide)), up_n (nmem hf (by decide)), up_n (nmem hf (by decide)), uF f (nmem hf (by decide))]
    unfold y_ct0
    dsimp only
    rw [up_n (nmem hf (by decide)), up_n (nmem hf (by decide)), up_n (nmem hf (by decide)), up_n (nmem hf (by decide)), up_n (nmem hf (by decide)), up_n (nmem hf (by decide))]
  · have := q3 f hf u
    rw [show (y_ct2 (y_cu 1 b (y_ct0 ν S))).2 f u = (y_cu 1 b (y_ct0 ν S)).2 f u from rfl, this, e0]
    by_cases cc : 1 ≤ u ∧ u ≤ b ∧ Cb S ν u = true
    · rw [if_pos cc, if_pos ⟨cc.1, by omega, cc.2.2⟩]
    · rw [if_neg cc, if_neg (fun z => cc ⟨z.1, by omega, z.2.2⟩)]
/-- all as made -/
theorem ct3_ok : ∀ (m o : Nat) (S : m_S), (y_ct3 o m S).1 = S.1 ∧ (∀ f, f ∉ [9, 10, 11, 97] → (y_ct3 o m S).2 f = S.2 f) ∧ (∀ q, o ≤ q → q < o + m → (y_ct3 o m S).2 9 (40 + q) = S.2 6 q ∧ (y_ct3 o m S).2 10 (40 + q) = 0 ∧ (y_ct3 o m S).2 11 (40 + q) = 0 ∧ (y_ct3 o m S).2 97 q = 1) ∧
    (∀ x, (x < 40 + o ∨ 40 + o + m ≤ x) → (y_ct3 o m S).2 9 x = S.2 9 x ∧ (y_ct3 o m S).2 10 x = S.2 10 x ∧ (y_ct3 o m S).2 11 x = S.2 11 x)
  | 0, o, S => ⟨rfl, fun _ _ => rfl, fun q h1 h2 => by omega, fun _ _ => ⟨rfl, rfl, rfl⟩⟩
  | m + 1, o, S => by
    obtain ⟨i1, i2, i3, i4⟩ := ct3_ok m (o + 1) (S.1, va_up (y_asM (40 + o) (S.2 6 o) S.2) 97 (va_up (S.2 97) o 1))
    have am := asM_y (x0 := 40) (n := o) (vm := S.2 6 o) (A := S.2)
    have j2 : ∀ f, f ∉ [9, 10, 11, 97] → (va_up (y_asM (40 + o) (S.2 6 o) S.2) 97 (va_up (S.2 97) o 1)) f = S.2 f := fun f hf => by
      rw [up_n (nmem hf (by decide))]
      unfold y_asM
      rw [up_n (nmem hf (by decide)), up_n (nmem hf (by decide)), up_n (nmem hf (by decide))]
    have jv : ∀ f, f ≠ 97 → (va_up (y_asM (40 + o) (S.2 6 o) S.2) 97 (va_up (S.2 97) o 1)) f = y_asM (40 + o) (S.2 6 o) S.2 f := fun f hf => up_n hf
    have ver : ∀ (m o : Nat) (S : m_S) (q : Nat), q < o → (y_ct3 o m S).2 97 q = S.2 97 q := fun m => by
      induction m with
      | zero => intro _ _ _ _; rfl
      | succ m ih =>
        intro o S q hq
        rw [y_ct3, ih (o + 1) _ q (by omega)]
        dsimp only
        rw [up_s, up_n (by omega)]
    rw [y_ct3]
    refine ⟨i1, fun f hf => (i2 f hf).trans (j2 f hf), fun q h1 h2 => ?_, fun x hx => ?_⟩
    · by_cases c : q = o
      · subst c
        obtain ⟨v1, v2, v3⟩ := i4 (40 + q) (by omega)
        rw [v1, v2, v3, ver m (q + 1) _ q (by omega)]
        dsimp only
        rw [jv _ (by decide), jv _ (by decide), jv _ (by decide), up_s, up_s]
        exact ⟨am.2.2.2.2.2.1, am.2.2.2.2.2.2.1, am.2.2.2.2.2.2.2, rfl⟩
      · obtain ⟨v1, v2, v3, v4⟩ := i3 q (by omega) (by omega)
        refine ⟨v1.trans ?_, v2, v3, v4⟩
        dsimp only
        rw [j2 _ (by decide)]
    · obtain ⟨v1, v2, v3⟩ := i4 x (by omega)
      obtain ⟨w1, w2, w3⟩ := am.2.2.2.1 x (by omega)
      refine ⟨v1.trans ?_, v2.trans ?_, v3.trans ?_⟩
      · dsimp only; rw [jv _ (by decide)]; exact w1
      · dsimp only; rw [jv _ (by decide)]; exact w2
      · dsimp only; rw [jv _ (by decide)]; exact w3
/-- the kept laid upon the live -/
theorem ct5_ok : ∀ (m o : Nat) (S : m_S), o + m ≤ 40 → (y_ct5 o m S).1 = S.1 ∧ (∀ f, f ∉ [9, 10, 11, 12] → (y_ct5 o m S).2 f = S.2 f) ∧ (∀ q, o ≤ q → q < o + m → (y_ct5 o m S).2 9 q = S.2 9 (40 + q) ∧ (y_ct5 o m S).2 10 q = S.2 10 (40 + q) ∧ (y_ct5 o m S).2 11 q = S.2 11 (40 + q) ∧ ∀ i, i < 8 → (y_ct5 o m S).2 12 (8 * q + i) = S.2 12 (8 * (40 + q) + i)) ∧
    (∀ x, (x < o ∨ o + m ≤ x) → (y_ct5 o m S).2 9 x = S.2 9 x ∧ (y_ct5 o m S).2 10 x = S.2 10 x ∧ (y_ct5 o m S).2 11 x = S.2 11 x) ∧ (∀ x, (x < 8 * o ∨ 8 * (o + m) ≤ x) → (y_ct5 o m S).2 12 x = S.2 12 x)
  | 0, o, S, _ => ⟨rfl, fun _ _ => rfl, fun q h1 h2 => by omega, fun _ _ => ⟨rfl, rfl, rfl⟩, fun _ _ => rfl⟩
  | m + 1, o, S, hm => by
    obtain ⟨i1, i2, i3, i4, i5⟩ := ct5_ok m (o + 1) (S.1, y_copy (40 + o) o S.2) (by omega)
    have c2 : ∀ f, f ∉ [9, 10, 11, 12] → (y_copy (40 + o) o S.2) f = S.2 f := fun f hf => by
      unfold y_copy
      rw [up_n (nmem hf (by decide)), up_n (nmem hf (by decide)), up_n (nmem hf (by decide)), up_n (nmem hf (by decide))]
    have cv : ∀ x, (y_copy (40 + o) o S.2) 9 x = (if x = o then S.2 9 (40 + o) else S.2 9 x) ∧ (y_copy (40 + o) o S.2) 10 x = (if x = o then S.2 10 (40 + o) else S.2 10 x) ∧ (y_copy (40 + o) o S.2) 11 x = (if x = o then S.2 11 (40 + o) else S.2 11 x) := fun x => by
      unfold y_copy
      simp (decide := true) only [up_n, up_s, ne_eq, not_false_eq_true]
      by_cases c : x = o
      · subst c; rw [up_s, up_s, up_s, if_pos rfl, if_pos rfl, if_pos rfl]; exact ⟨rfl, rfl, rfl⟩
      · rw [up_n c, up_n c, up_n c, if_neg c, if_neg c, if_neg c]; exact ⟨rfl, rfl, rfl⟩
    have ci : ∀ x, (y_copy (40 + o) o S.2) 12 x = (if 8 * o ≤ x ∧ x < 8 * o + 8 then S.2 12 (8 * (40 + o) + (x - 8 * o)) else S.2 12 x) := fun x => by
      unfold y_copy
      rw [up_s]
      simp only [va_cpy]
    rw [y_ct5]
    refine ⟨i1, fun f hf => (i2 f hf).trans (c2 f hf), fun q h1 h2 => ?_, fun x hx => ?_, fun x hx => ?_⟩
    · by_cases c : q = o
      · subst c
        obtain ⟨v1, v2, v3⟩ := i4 q (by omega)
        obtain ⟨w1, w2, w3⟩ := cv q
        refine ⟨v1.trans (w1.trans (if_pos rfl)), v2.trans (w2.trans (if_pos rfl)), v3.trans (w3.trans (if_pos rfl)), fun i hi => ?_⟩
        rw [i5 _ (by omega)]
        dsimp only
        rw [ci, if_pos (by omega), Nat.add_sub_cancel_left]
      · obtain ⟨v1, v2, v3, v4⟩ := i3 q (by omega) (by omega)
        obtain ⟨w1, w2, w3⟩ := cv (40 + q)
        refine ⟨v1.trans (w1.trans (if_neg (by omega))), v2.trans (w2.trans (if_neg (by omega))), v3.trans (w3.trans (if_neg (by omega))), fun i hi => ?_⟩
        rw [v4 i hi]
        dsimp only
        rw [ci, if_neg (by omega)]
    · obtain ⟨v1, v2, v3⟩ := i4 x (by omega)
      obtain ⟨w1, w2, w3⟩ := cv x
      exact ⟨v1.trans (w1.trans (if_neg (by omega))), v2.trans (w2.trans (if_neg (by omega))), v3.trans (w3.trans (if_neg (by omega)))⟩
    · rw [i5 x (by omega)]
      dsimp only
      rw [ci, if_neg (by omega)]
end VR
