/-! the place of an object as it is made: new, or one that lay there -/
section VC
variable {g : e_G} {Ψ : e_Q} {B : Nat → Option e_Cl} {Z : k_Z} {P : k_P} {U : k_U} {N own n o m sl : Nat}
/-- two addresses more -/
def k_ad (N m : Nat) : Nat := N ||| (2 ^ (m + 1) ||| 2 ^ (m + 2))
theorem k_ad_in {N m a : Nat} : k_in (k_ad N m) a ↔ k_in N a ∨ a = m + 1 ∨ a = m + 2 := by
  unfold k_in k_ad
  rw [Nat.testBit_or, Nat.testBit_or, Nat.testBit_two_pow, Nat.testBit_two_pow, Bool.or_eq_true, Bool.or_eq_true, decide_eq_true_eq, decide_eq_true_eq]
  constructor
  · rintro (h | h | h)
    · exact Or.inl h
    · exact Or.inr (Or.inl h.symm)
    · exact Or.inr (Or.inr h.symm)
  · rintro (h | h | h)
    · exact Or.inl h
    · exact Or.inr (Or.inl h.symm)
    · exact Or.inr (Or.inr h.symm)
def Pl (N own o : Nat) (so dg : Int32) (Z : k_Z) (P : k_P) (U : k_U) (r : Nat × Nat) (x N' : Nat) (Z' : k_Z) (P' : k_P) (U' : k_U) (r' : Nat × Nat) : Prop :=
  (∀ a, k_in N a → k_in N' a) ∧ k_E N' own Z' U' r' ∧ Z'.1 x = 10 ∧ (∀ a, Z.1 a ≠ 0 → Z'.1 a = Z.1 a) ∧ Z'.2 = Z.2 ∧ U'.1 = U.1 ∧ (∀ a, a ≠ x + 1 → a ≠ x + 2 → U'.2.1 a = U.2.1 a) ∧ U'.2.1 (x + 1) = [] ∧ U'.2.1 (x + 2) = [] ∧ U'.2.2 (own + 13) = va_up (U.2.2 (own + 13)) o (some x) ∧ (∀ a, a ≠ own + 13 → U'.2.2 a = U.2.2 a) ∧
  (∀ f a, a < r.1 → a ≠ x → P'.1 f a = P.1 f a) ∧ (∀ a, a < r.1 → a ≠ x + 3 → a ≠ x + 4 → P'.2 a = P.2 a) ∧ P'.1 180 x = so ∧ P'.1 183 x = 1 ∧ P'.2 (x + 3) 0 = 0 ∧ P'.2 (x + 4) 0 = dg ∧ r.1 ≤ r'.1 ∧ r.2 ≤ r'.2 ∧ r'.1 ≤ r.1 + 5 ∧ r'.2 ≤ r.2 + 44
theorem rsS_r {x : Nat} {so dg : Int32} : (k_rsS P x so dg).1 180 x = so ∧ (k_rsS P x so dg).1 183 x = 1 ∧ (k_rsS P x so dg).2 (x + 3) 0 = 0 ∧ (k_rsS P x so dg).2 (x + 4) 0 = dg ∧ (∀ f a, a ≠ x → (k_rsS P x so dg).1 f a = P.1 f a) ∧ ∀ a, a ≠ x + 3 → a ≠ x + 4 → (k_rsS P x so dg).2 a = P.2 a := by
  obtain ⟨q1, q2, q3, q4, q5⟩ := kv1_r (P := k_wr (k_wr P 180 x so) 183 x 0) (s := x) (m := 0) (e := 0) (dg := dg)
  have e : k_rsS P x so dg = k_kv1 (k_wr (k_wr P 180 x so) 183 x 0) x 0 0 dg := by
    unfold k_rsS k_kv
    rw [if_pos (by omega)]
  rw [e]
  refine ⟨?_, q1, by rw [q2, up_s], by rw [q3, up_s], fun f a h => ?_, fun a h1 h2 => by rw [q5 a h1 h2]; rfl⟩
  · rw [q4 _ _ (Or.inl (by decide)), k_rn (by decide), k_rs]
  · have e2 : ∀ (P : k_P) (f' : Nat) (w : Int32), (k_wr P f' x w).1 f a = P.1 f a := fun P f' w => by
      by_cases c : f = f'
      · subst c; exact k_ra h
      · exact k_rn c
    rw [q4 _ _ (Or.inr h), e2, e2]
theorem s_place (hg : e_GK g) (hA : e_AK g) (E : k_E N own Z U (m, sl)) (hk : k_Sh Z P U (own + 5) n) (ho : o < n) (hz : P.1 220 (k_th U (own + 5) o) = 4 → ∃ z, z ≤ 8 ∧ P.1 223 (k_th U (own + 5) o) = nI z)
    (q : ∀ x N' Z' P' U' r', Pl N own o (P.1 220 (k_th U (own + 5) o)) (k_sum P (k_th U (own + 5) o)) Z P U (m, sl) x N' Z' P' U' r' → Ψ none (K_H Z' P' U' (B, r'))) : e_Sc g 131 [.ref own, .int (nI o)] (K_H Z P U (B, (m, sl))) Ψ := by
  have fr := E.2.2.1
  have tO := E.2.1
  obtain ⟨a1, a2, a3, a4, a5, a6, a7, a8, a9, a10⟩ := E.1.hse tO
  have tm : ∀ k, k ≤ 4 → Z.1 (m + k) = 0 := fun k _ => (fr (m + k) (Nat.le_add_right _ _)).1
  have cm : ∀ k, k ≤ 4 → Z.2.1 (m + k) = 0 := fun k _ => (fr (m + k) (Nat.le_add_right _ _)).2
  have tm0 : Z.1 m = 0 := tm 0 (by omega)
  have o13 : own + 13 < m := E.lt (by rw [a4]; decide)
  refine h_placeSpot hg hA (N := k_ad N m) (E.1.mono (fun a ha => k_ad_in.mpr (Or.inl ha))) tO hk ho tm cm ⟨k_ad_in.mpr (Or.inr (Or.inl rfl)), k_ad_in.mpr (Or.inr (Or.inr rfl))⟩ hz (fun x hx => ?_) (fun hx => ?_)
  · have tx := E.1.xsp a4 hx
    have xl : x < m := E.lt (by rw [tx]; decide)
    obtain ⟨r1, r2, r3, r4, r5, r6⟩ := rsS_r (P := P) (x := x) (so := P.1 220 (k_th U (own + 5) o)) (dg := k_sum P (k_th U (own + 5) o))
    refine q x N Z _ _ (m, sl) ⟨fun _ h => h, ⟨E.1.wl0.wl0, tO, fr, E.2.2.2.1, E.2.2.2.2.cg (Nat.le_refl _) (fun _ _ => rfl) rfl⟩, tx, fun _ _ => rfl, rfl, rfl, fun a h1 h2 => by rw [k_ln h2, k_ln h1], by rw [k_ln (by omega), k_ls], k_ls, ?_, fun _ _ => rfl, fun f a _ h => r5 f a h, fun a _ h1 h2 => r6 a h1 h2, r1, r2, r3, r4, Nat.le_refl _, Nat.le_refl _, by omega, by omega⟩
    funext i
    by_cases c : i = o
    · rw [c, up_s]; exact hx
    · rw [up_n c]; rfl
  · obtain ⟨r1, r2, r3, r4, r5, r6⟩ := rsS_r (P := k_nP P m) (x := m) (so := P.1 220 (k_th U (own + 5) o)) (dg := k_sum P (k_th U (own + 5) o))
    have zz : ∀ a, a < m → (k_zP Z m).1 a = Z.1 a := fun a h => by unfold k_zP; rw [k_ztn (by omega), k_ztn (by omega), k_ztn (by omega), k_ztn (by omega), k_ztn (by omega)]
    have zh : ∀ a, m + 5 ≤ a → (k_zP Z m).1 a = Z.1 a := fun a h => by unfold k_zP; rw [k_ztn (by omega), k_ztn (by omega), k_ztn (by omega), k_ztn (by omega), k_ztn (by omega)]
    have zm : (k_zP Z m).1 m = 10 := by unfold k_zP; exact k_zts
    have w1 := (E.1.mono (N' := k_ad N m) (fun a ha => k_ad_in.mpr (Or.inl ha))).newP tm ⟨k_ad_in.mpr (Or.inr (Or.inl rfl)), k_ad_in.mpr (Or.inr (Or.inr rfl))⟩
    obtain ⟨y1, y2, y3, y4⟩ := w1.spt zm
    have w2 := w1.wx (a := own + 13) (i := o) (v := m) (fun h => by rw [zz _ o13, a4] at h; exact absurd h (by decide)) (fun _ => zm)
    have u22 : ∀ a, a ≠ own + 13 → (k_wx (k_uP U m) (own + 13) (va_up (U.2.2 (own + 13)) o (some m))).2.2 a = U.2.2 a := fun a ha => by unfold k_wx; dsimp only; rw [up_n ha]; rfl
    have u2s : (k_wx (k_uP U m) (own + 13) (va_up (U.2.2 (own + 13)) o (some m))).2.2 (own + 13) = va_up (U.2.2 (own + 13)) o (some m) := by unfold k_wx; dsimp only; rw [up_s]
    have ulO : ∀ a, a ≠ m + 1 → a ≠ m + 2 → (k_wx (k_uP U m) (own + 13) (va_up (U.2.2 (own + 13)) o (some m))).2.1 a = U.2.1 a := fun a h1 h2 => by
      show (k_uP U m).2.1 a = _
      unfold k_uP
      rw [k_ln h2, k_ln h1]
    have ul1 : (k_wx (k_uP U m) (own + 13) (va_up (U.2.2 (own + 13)) o (some m))).2.1 (m + 1) = [] := by
      show (k_uP U m).2.1 (m + 1) = _
      unfold k_uP
      rw [k_ln (by omega), k_ls]
    have ul2 : (k_wx (k_uP U m) (own + 13) (va_up (U.2.2 (own + 13)) o (some m))).2.1 (m + 2) = [] := by
      show (k_uP U m).2.1 (m + 2) = _
      unfold k_uP
      rw [k_ls]
    have n40 := hk.2.2.1
    have hN2 : k_Q (k_ad N m) own (k_zP Z m) (k_wx (k_uP U m) (own + 13) (va_up (U.2.2 (own + 13)) o (some m))) (m + 5, sl + 44) := by
      obtain ⟨j1, j2, j3⟩ := E.2.2.2.2
      have j1 : own + 98 ≤ m := j1
      refine ⟨by show own + 98 ≤ m + 5; omega, fun a ha => ?_, fun a ha => ?_⟩
      · by_cases c : a < m
        · rw [zz a c] at ha; exact j2 a ha
        · exact ⟨by omega, Or.inr (by omega)⟩
      · rcases k_ad_in.mp ha with h | h | h
        · obtain ⟨i1, i2⟩ := j3 a h
          have i1 : a < m := i1
          refine ⟨by show a < m + 5; omega, ?_⟩
          rcases i2 with z | z | z | z | ⟨i, x, z1, z2, z3⟩
          · exact Or.inl z
          · exact Or.inr (Or.inl z)
          · exact Or.inr (Or.inr (Or.inl z))
          · exact Or.inr (Or.inr (Or.inr (Or.inl z)))
          · refine Or.inr (Or.inr (Or.inr (Or.inr ⟨i, x, z1, ?_, z3⟩)))
            rw [u2s, up_n (fun y => by rw [y, hx] at z2; cases z2)]
            exact z2
        · exact ⟨by show a < m + 5; omega, Or.inr (Or.inr (Or.inr (Or.inr ⟨o, m, by omega, by rw [u2s, up_s], Or.inl h⟩)))⟩
        · exact ⟨by show a < m + 5; omega, Or.inr (Or.inr (Or.inr (Or.inr ⟨o, m, by omega, by rw [u2s, up_s], Or.inr h⟩)))⟩
    refine q m (k_ad N m) _ _ _ _ ⟨fun a ha => k_ad_in.mpr (Or.inl ha), ⟨w2, by rw [zz own (by omega)]; exact tO, fun a ha => ?_, fun a i a' i' x h1 h2 e1 e2 => ?_, hN2⟩, zm, fun a h => zz a (E.lt h), rfl, rfl, ulO, ul1, ul2, u2s, u22, fun f a ha h => ?_, fun a ha h1 h2 => ?_, r1, r2, r3, r4, ?_, ?_, ?_, ?_⟩
    · have ha : m + 5 ≤ a := ha
      exact ⟨(zh a ha).trans (fr a (by show m ≤ a; omega)).1, (fr a (by show m ≤ a; omega)).2⟩
    · have tt : ∀ a, ((k_zP Z m).1 a = 20 ∨ (k_zP Z m).1 a = 21) → Z.1 a = 20 ∨ Z.1 a = 21 := fun a h => by
        by_cases c1 : a < m
        · rw [zz a c1] at h; exact h
        · by_cases c2 : m + 5 ≤ a
          · rw [zh a c2] at h; exact h
          · exfalso
            have : a = m ∨ a = m + 1 ∨ a = m + 2 ∨ a = m + 3 ∨ a = m + 4 := by omega
            rcases this with e | e | e | e | e
            · rw [e, zm] at h; exact absurd h (by decide)
            · rw [e, y1] at h; exact absurd h (by decide)
            · rw [e, y2] at h; exact absurd h (by decide)
            · rw [e, y3] at h; exact absurd h (by decide)
            · rw [e, y4] at h; exact absurd h (by decide)
      have nom : ∀ a i, Z.1 a = 20 ∨ Z.1 a = 21 → U.2.2 a i ≠ some m := fun a i h z => by
        rcases h with h | h
        · have := E.1.xth h z
          rw [tm0] at this
          exact absurd this (by decide)
        · have := E.1.xsp h z
          rw [tm0] at this
          exact absurd this (by decide)
      have look : ∀ a i, (k_wx (k_uP U m) (own + 13) (va_up (U.2.2 (own + 13)) o (some m))).2.2 a i = if a = own + 13 ∧ i = o then some m else U.2.2 a i := fun a i => by
        by_cases c1 : a = own + 13
        · subst c1
          rw [u2s]
          by_cases c2 : i = o
          · rw [c2, up_s, if_pos ⟨rfl, rfl⟩]
          · rw [up_n c2, if_neg (fun z => c2 z.2)]
        · rw [u22 a c1, if_neg (fun z => c1 z.1)]
      rw [look] at e1 e2
      by_cases c1 : a = own + 13 ∧ i = o
      · rw [if_pos c1] at e1
        cases e1
        by_cases c2 : a' = own + 13 ∧ i' = o
        · exact ⟨c1.1.trans c2.1.symm, c1.2.trans c2.2.symm⟩
        · rw [if_neg c2] at e2
          exact absurd e2 (nom a' i' (tt a' h2))
      · rw [if_neg c1] at e1
        by_cases c2 : a' = own + 13 ∧ i' = o
        · rw [if_pos c2] at e2
          cases e2
          exact absurd e1 (nom a i (tt a h1))
        · rw [if_neg c2] at e2
          exact E.2.2.2.1 a i a' i' x (tt a h1) (tt a' h2) e1 e2
    · have ha : a < m := ha
      rw [r5 f a h]
      unfold k_nP
      rw [k_s1n (by omega), k_a1, k_a1]
    · have ha : a < m := ha
      rw [r6 a h1 h2]
      unfold k_nP
      show (k_wa (k_wa P (m + 3) _) (m + 4) _).2 a = _
      rw [k_an (by omega), k_an (by omega)]
    · show m ≤ m + 5; omega
    · show sl ≤ sl + 44; omega
    · show m + 5 ≤ m + 5; omega
    · show sl + 44 ≤ sl + 44; omega
end VC
