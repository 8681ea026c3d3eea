/-! a thing put on a shelf: new, or one that lay there -/
section VB
variable {g : e_G} {Ψ : e_Q} {B : Nat → Option e_Cl} {Z : k_Z} {P : k_P} {U : k_U} {N N' own s n m sl : Nat} {so p v : Int32}
def Pt (N own s n : Nat) (so p v : Int32) (Z : k_Z) (P : k_P) (U : k_U) (r : Nat × Nat) (x : Nat) (Z' : k_Z) (P' : k_P) (U' : k_U) (r' : Nat × Nat) : Prop :=
  k_E N own Z' U' r' ∧ Z'.1 x = 12 ∧ (∀ a, Z.1 a ≠ 0 → Z'.1 a = Z.1 a) ∧ Z'.2 = Z.2 ∧ U'.1 = U.1 ∧ U'.2.1 = U.2.1 ∧ U'.2.2 (s + 1) = va_up (U.2.2 (s + 1)) n (some x) ∧ (∀ a, a ≠ s + 1 → U'.2.2 a = U.2.2 a) ∧
  (∀ f a, a < r.1 → a ≠ x → f ≠ 161 ∨ a ≠ s → P'.1 f a = P.1 f a) ∧ (∀ a, a < r.1 → P'.2 a = P.2 a) ∧ P'.1 220 x = so ∧ P'.1 221 x = p ∧ P'.1 222 x = k_dep P U s n p ∧ P'.1 223 x = (if so = 7 then -1 else if k_hv so = true then v else 0) ∧ P'.1 161 s = nI (n + 1) ∧ k_ro N 2 13 Z.2.1 r Z'.2.1 r'
theorem put1_r {x : Nat} (hxs : x ≠ s) {d : Int32} : (k_put1 P U s n x so p v d).1 220 x = so ∧ (k_put1 P U s n x so p v d).1 221 x = p ∧ (k_put1 P U s n x so p v d).1 222 x = d ∧ (k_put1 P U s n x so p v d).1 223 x = (if so = 7 then -1 else if k_hv so = true then v else 0) ∧ (k_put1 P U s n x so p v d).1 161 s = nI (n + 1) ∧ (∀ f a, a ≠ x → f ≠ 161 ∨ a ≠ s → (k_put1 P U s n x so p v d).1 f a = P.1 f a) ∧ (k_put1 P U s n x so p v d).2 = P.2 := by
  unfold k_put1 k_rst
  refine ⟨?_, ?_, ?_, ?_, ?_, fun f a h1 h2 => ?_, rfl⟩
  · rw [k_rn (by decide), k_rn (by decide), k_rn (by decide), k_rn (by decide), k_rs]
  · rw [k_rn (by decide), k_rn (by decide), k_rn (by decide), k_rs]
  · rw [k_rn (by decide), k_rn (by decide), k_rs]
  · rw [k_rn (by decide), k_rs]
  · rw [k_rs]
  · have e : ∀ (P : k_P) (f' : Nat) (w : Int32), (k_wr P f' x w).1 f a = P.1 f a := fun P f' w => by
      by_cases c : f = f'
      · subst c; exact k_ra h1
      · exact k_rn c
    have e2 : ∀ (P : k_P) (w : Int32), (k_wr P 161 s w).1 f a = P.1 f a := fun P w => by
      by_cases c : f = 161
      · subst c; exact k_ra (h2.resolve_left (fun z => z rfl))
      · exact k_rn c
    rw [e2, e, e, e, e]
theorem s_put (hg : e_GK g) (E : k_E N own Z U (m, sl)) (hs : k_Sh Z P U s n) (hn : n < 40) (q : ∀ x Z' P' U' r', Pt N own s n so p v Z P U (m, sl) x Z' P' U' r' → (U.2.2 (s + 1) n = some x ∨ x = m ∧ U.2.2 (s + 1) n = none) → Ψ none (K_H Z' P' U' (B, r'))) : e_Sc g 40 [.ref s, .int so, .int p, .int v] (K_H Z P U (B, (m, sl))) Ψ := by
  have fr := E.2.2.1
  have tm : ∀ k, Z.1 (m + k) = 0 := fun k => (fr (m + k) (Nat.le_add_right _ _)).1
  have tm0 : Z.1 m = 0 := tm 0
  have ts := hs.1
  obtain ⟨t1, t2, t3⟩ := E.1.shf ts
  have a4 := (E.1.hse E.2.1).2.2.2.1
  refine h_put hg E.1 hs hn tm0 (tm 1) (fun x hx => ?_) (fun hx => ?_)
  · have tx := E.1.xth t1 hx
    have xl : x < m := E.lt (by rw [tx]; decide)
    have xs : x ≠ s := fun z => by rw [z, ts] at tx; exact absurd tx (by decide)
    obtain ⟨r1, r2, r3, r4, r5, r6, r7⟩ := put1_r (P := P) (U := U) (n := n) (so := so) (p := p) (v := v) (d := k_dep P U s n p) xs
    refine q x Z _ U (m, sl) ⟨E, tx, fun _ _ => rfl, rfl, rfl, rfl, ?_, fun _ _ => rfl, fun f a _ h1 h2 => r6 f a h1 h2, fun a _ => by rw [r7], r1, r2, r3, r4, r5, k_ro.rf.le (by omega) (by omega)⟩ (Or.inl hx)
    funext i
    by_cases c : i = n
    · rw [c, up_s]; exact hx
    · rw [up_n c]
  · have ms : m ≠ s := fun z => by rw [← z, tm0] at ts; exact absurd ts (by decide)
    have sm : s < m := E.lt (by rw [ts]; decide)
    have s1m : s + 1 < m := E.lt (by rw [t1]; decide)
    obtain ⟨r1, r2, r3, r4, r5, r6, r7⟩ := put1_r (P := k_nT P m) (U := U) (n := n) (so := so) (p := p) (v := v) (d := k_dep P U s n p) ms
    have zz : ∀ a, Z.1 a ≠ 0 → (k_zt (k_zt Z (m + 1) 108) m 12).1 a = Z.1 a := fun a h => by
      have := E.lt (a := a) h
      have this : a < m := this
      rw [k_ztn (by omega), k_ztn (by omega)]
    have wx0 := (E.1.leaf (tg := 108) (tm 1) (by omega)).zt (n := m) (tg := 12) (by rw [k_ztn (by omega)]; exact tm0) (by omega) (fun h => by omega) (fun h => by omega) (fun _ => k_zts) (fun h => by omega) (fun h => by omega) (by omega) (fun h => by omega) (fun h => by omega) (fun h => by omega) (fun h => by omega) (fun h => by omega) (fun h => by omega)
    have wx1 := wx0.wx (a := s + 1) (i := n) (v := m) (fun _ => k_zts) (fun h => by rw [zz _ (by rw [t1]; decide), t1] at h; exact absurd h (by decide))
    have u22 : ∀ a, a ≠ s + 1 → (k_wx U (s + 1) (va_up (U.2.2 (s + 1)) n (some m))).2.2 a = U.2.2 a := fun a ha => by unfold k_wx; dsimp only; rw [up_n ha]
    have u2s : (k_wx U (s + 1) (va_up (U.2.2 (s + 1)) n (some m))).2.2 (s + 1) = va_up (U.2.2 (s + 1)) n (some m) := by unfold k_wx; dsimp only; rw [up_s]
    have hN2 : k_Q N own (k_zt (k_zt Z (m + 1) 108) m 12) (k_wx U (s + 1) (va_up (U.2.2 (s + 1)) n (some m))) (m + 2, sl + 13) := E.2.2.2.2.cg (by show m ≤ m + 2; omega) (fun a ha => by have ha : a < m := ha; rw [k_ztn (by omega), k_ztn (by omega)]) (u22 _ (fun z => by rw [z, t1] at a4; exact absurd a4 (by decide)))
    refine q m _ _ _ _ ⟨⟨wx1, ?_, fun a ha => ?_, fun a i a' i' x h1 h2 e1 e2 => ?_, hN2⟩, k_zts, zz, rfl, rfl, rfl, u2s, u22, fun f a ha h1 h2 => ?_, fun a ha => ?_, r1, r2, r3, r4, r5, ?_⟩ (Or.inr ⟨rfl, hx⟩)
    · rw [zz _ (by rw [E.2.1]; decide)]; exact E.2.1
    · have ha : m + 2 ≤ a := ha
      refine ⟨?_, (fr a (by show m ≤ a; omega)).2⟩
      show (k_zt (k_zt Z (m + 1) 108) m 12).1 a = 0
      rw [k_ztn (by omega), k_ztn (by omega)]
      exact (fr a (by show m ≤ a; omega)).1
    · have tt : ∀ a, ((k_zt (k_zt Z (m + 1) 108) m 12).1 a = 20 ∨ (k_zt (k_zt Z (m + 1) 108) m 12).1 a = 21) → Z.1 a = 20 ∨ Z.1 a = 21 := fun a h => by
        by_cases c1 : a = m
        · rw [c1, k_zts] at h; exact absurd h (by decide)
        · rw [k_ztn c1] at h
          by_cases c2 : a = m + 1
          · rw [c2, k_zts] at h; exact absurd h (by decide)
          · rw [k_ztn c2] at h; exact h
      have nom : ∀ a i, Z.1 a = 20 ∨ Z.1 a = 21 → U.2.2 a i ≠ some m := fun a i h z => by
        rcases h with h | h
        · have := E.1.xth h z
          rw [tm0] at this
          exact absurd this (by decide)
        · have := E.1.xsp h z
          rw [tm0] at this
          exact absurd this (by decide)
      have look : ∀ a i, (k_wx U (s + 1) (va_up (U.2.2 (s + 1)) n (some m))).2.2 a i = if a = s + 1 ∧ i = n then some m else U.2.2 a i := fun a i => by
        by_cases c1 : a = s + 1
        · subst c1
          rw [u2s]
          by_cases c2 : i = n
          · rw [c2, up_s, if_pos ⟨rfl, rfl⟩]
          · rw [up_n c2, if_neg (fun z => c2 z.2)]
        · rw [u22 a c1, if_neg (fun z => c1 z.1)]
      rw [look] at e1 e2
      by_cases c1 : a = s + 1 ∧ i = n
      · rw [if_pos c1] at e1
        cases e1
        by_cases c2 : a' = s + 1 ∧ i' = n
        · exact ⟨c1.1.trans c2.1.symm, c1.2.trans c2.2.symm⟩
        · rw [if_neg c2] at e2
          exact absurd e2 (nom a' i' (tt a' h2))
      · rw [if_neg c1] at e1
        by_cases c2 : a' = s + 1 ∧ i' = n
        · rw [if_pos c2] at e2
          cases e2
          exact absurd e1 (nom a i (tt a h1))
        · rw [if_neg c2] at e2
          exact E.2.2.2.1 a i a' i' x (tt a h1) (tt a' h2) e1 e2
    · rw [r6 f a h1 h2]
      unfold k_nT
      rw [k_s1n (by omega), k_a1]
    · have ha : a < m := ha
      rw [r7]
      unfold k_nT
      show (k_wa P (m + 1) _).2 a = _
      rw [k_an (by omega)]
    · exact (k_ro.new (r := (m, sl)) 2 13)
end VB
