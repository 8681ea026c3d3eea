/-! what serial and tried leave as it was -/
section VK
variable {Z Z' : k_Z} {P P' : k_P} {U U' : k_U} {r r' : Nat × Nat} {S S' : m_S} {N own n b l nl nw nr na ne c T : Nat} {ch : Nat → List Nat}
def fp_xF : List Nat := [25, 28, 26, 27, 8]
def fp_xA : List Nat := [9, 10, 11, 12, 100]
theorem I_scr (hI : I_all n b l nl nw nr na ne ch 0 c T S) (eF : ∀ f, f ∉ fp_xF → S'.1 f = S.1 f) (eA : ∀ f, f ∉ fp_xA → S'.2 f = S.2 f) (el : ∀ x, x < 80 → S'.2 10 x = S.2 10 x ∧ S'.2 11 x = S.2 11 x) (hz : w_sz S'.2) : I_all n b l nl nw nr na ne ch 0 c T S' := by
  obtain ⟨hL, hD, hE, hK, hV, hM, hP, hX⟩ := hI
  have n40 := hL.2.2.1.1
  have ace : ac_eq S.2 S'.2 := ⟨eA _ (by decide), eA _ (by decide), eA _ (by decide), eA _ (by decide), eA _ (by decide), eA _ (by decide), eA _ (by decide), eA _ (by decide), eA _ (by decide)⟩
  have rwe : rw_eq nr S.2 S'.2 := fun j _ => ⟨by rw [eA _ (by decide)], by rw [eA _ (by decide)], by rw [eA _ (by decide)], by rw [eA _ (by decide)], by rw [eA _ (by decide)], by rw [eA _ (by decide)], by rw [eA _ (by decide)], by rw [eA _ (by decide)]⟩
  have est := eA 47 (by decide)
  refine ⟨?_, ?_, ?_, ?_, hV.cg (eA _ (by decide)) (eA _ (by decide)) (eA _ (by decide)) (eA _ (by decide)) (eA _ (by decide)), hM.cg (Nat.le_refl _) (fun f hf => eF f (by clear eF eA; revert f; decide)) (eA _ (by decide)), ?_, ?_⟩
  · exact hL.cgE ((eF _ (by decide)).trans hL.1) (Nat.le_refl _) rwe (fun j j1 j2 => by omega) (eF _ (by decide)) ace (eA _ (by decide)) (eA _ (by decide)) (eA _ (by decide)) (eA _ (by decide)) (fun o ho => (el o (by omega)).1) (fun o ho => (el o (by omega)).2) hz (fun _ _ _ _ => rfl) (fun _ _ _ _ => ⟨by rw [eA _ (by decide)], by rw [eA _ (by decide)]⟩) (fun u _ _ => ⟨fun z => by unfold undw at z ⊢; rw [est] at z; exact z, fun z => Or.inr (by rw [est] at z; exact z)⟩)
  · unfold I_de I_dl v_lv undw inp at hD ⊢
    rw [eF 44 (by decide), eF 45 (by decide)]
    rw [eA 47 (by decide), eA 48 (by decide), eA 51 (by decide), eA 52 (by decide), eA 55 (by decide), eA 56 (by decide), eA 57 (by decide), eA 46 (by decide), eA 67 (by decide), eA 68 (by decide), eA 71 (by decide), eA 54 (by decide)]
    exact hD
  · exact hE.cg (Nat.le_refl _) rwe (fun j j1 j2 => by omega) (eF _ (by decide)) (eA _ (by decide)) (eA _ (by decide)) (eA _ (by decide)) (fun _ _ _ _ => rfl) (fun _ _ _ => by rw [eA _ (by decide)]) (fun u _ _ => by rw [est])
  · have vl : v_L nl S'.2 = v_L nl S.2 := vL_cg (fun f hf => eA f (by clear eA eF; revert f; decide))
    have vw : v_W nw S'.2 = v_W nw S.2 := vW_cg (fun f hf => eA f (by clear eA eF; revert f; decide))
    unfold I_lk I_gh I_l1 I_w1 rem7 dp o_1 kd_1 kd_2 inp undw w_ah at hK ⊢
    rw [vl, vw, eF 72 (by decide), eF 80 (by decide)]
    rw [eA 47 (by decide), eA 51 (by decide), eA 55 (by decide), eA 67 (by decide), eA 68 (by decide), eA 69 (by decide), eA 70 (by decide), eA 71 (by decide), eA 54 (by decide), eA 86 (by decide), eA 4 (by decide), eA 7 (by decide), eA 36 (by decide), eA 35 (by decide), eA 37 (by decide)]
    exact hK
  · have elv : v_lv l S'.2 = v_lv l S.2 := by unfold v_lv; rw [eA _ (by decide)]
    unfold I_po at hP ⊢
    rw [elv, eF 66 (by decide), eA 47 (by decide), eA 52 (by decide), eA 55 (by decide), eA 71 (by decide)]
    exact hP
  · unfold I_ak inp at hX ⊢
    rw [eA 47 (by decide), eA 67 (by decide), eA 68 (by decide), eA 69 (by decide), eA 70 (by decide)]
    exact hX
/-- the third shelf may change, all else stays -/
def Fz (own : Nat) (Z : k_Z) (P : k_P) (U : k_U) (r : Nat × Nat) (Z' : k_Z) (P' : k_P) (U' : k_U) (r' : Nat × Nat) : Prop :=
  (∀ a, Z.1 a ≠ 0 → Z'.1 a = Z.1 a) ∧ Z'.2 = Z.2 ∧ U'.1 = U.1 ∧ U'.2.1 = U.2.1 ∧ (∀ a, a ≠ own + 10 → U'.2.2 a = U.2.2 a) ∧ (∀ i x, U.2.2 (own + 10) i = some x → ∃ j, U'.2.2 (own + 10) j = some x) ∧
  (∀ f a, Z.1 a ≠ 0 → (∀ i, U'.2.2 (own + 10) i ≠ some a) → a ≠ own + 9 → a ≠ own + 11 → P'.1 f a = P.1 f a) ∧ (∀ a, Z.1 a ≠ 0 → (∀ i x, U'.2.2 (own + 10) i = some x → a ≠ x + 1) → a ≠ own + 12 → P'.2 a = P.2 a) ∧ r.1 ≤ r'.1 ∧ r.2 ≤ r'.2
theorem K_scr (hI : I_all n b l nl nw nr na ne ch 0 c T S) (hK : K_all N own n b l nl nw nr ne ch 0 Z P U r S) (eF : ∀ f, f ∉ fp_xF → S'.1 f = S.1 f) (eA : ∀ f, f ∉ fp_xA → S'.2 f = S.2 f) (el : ∀ x, x < 80 → S'.2 9 x = S.2 9 x ∧ S'.2 10 x = S.2 10 x ∧ S'.2 11 x = S.2 11 x) (ei : ∀ x, x < 640 → S'.2 12 x = S.2 12 x)
    (E' : k_E N own Z' U' r') (fz : Fz own Z P U r Z' P' U' r') : K_all N own n b l nl nw nr ne ch 0 Z' P' U' r' S' := by
  have lvm := lvm_of hI
  have har := har_of hI
  have n40 := hI.1.2.2.1.1
  obtain ⟨E, kLg, ⟨hs1, hS⟩, ⟨hs5, hS5⟩, kDe, kEn, kAs, kLk, kVe, kMi⟩ := hK
  obtain ⟨fZ, fZ2, u1, u2, u3, u4, f1, f2, hr1, hr2⟩ := fz
  have tO := E.2.1
  obtain ⟨a1, a2, a3, a4, a5, a6, a7, a8, a9, a10⟩ := E.1.hse tO
  have t18 : Z.1 (own + 18) = 32 := E.1.log a8
  have t10 : Z.1 (own + 10) = 20 := (E.1.shf a3).1
  have t10' : Z'.1 (own + 10) = 20 := by rw [fZ _ (by rw [t10]; decide)]; exact t10
  have xT : ∀ i x, U'.2.2 (own + 10) i = some x → Z'.1 x = 12 := fun i x h => E'.1.xth t10' h
  -- what is no thing of the third shelf
  have nT : ∀ a, Z.1 a ≠ 0 → Z.1 a ≠ 12 → ∀ i, U'.2.2 (own + 10) i ≠ some a := fun a h0 h1 i z => by
    have := xT i a z
    rw [fZ a h0] at this
    exact h1 this
  have nC : ∀ a, Z.1 a ≠ 0 → Z.1 a ≠ 108 → ∀ i x, U'.2.2 (own + 10) i = some x → a ≠ x + 1 := fun a h0 h1 i x z e => by
    have := E'.1.thg (xT i x z)
    rw [← e, fZ a h0] at this
    exact h1 this
  have fP : ∀ f a, Z.1 a ≠ 0 → Z.1 a ≠ 12 → Z.1 a ≠ 9 → Z.1 a ≠ 6 → P'.1 f a = P.1 f a := fun f a h0 h1 h2 h3 => f1 f a h0 (nT a h0 h1) (fun z => by rw [z] at h2; exact h2 a3) (fun z => by rw [z] at h3; exact h3 (E.1.shf a3).2.1)
  have o12 : Z.1 (own + 12) = 116 := (E.1.shf a3).2.2
  have fP2 : ∀ a, Z.1 a ≠ 0 → Z.1 a ≠ 108 → a ≠ own + 12 → P'.2 a = P.2 a := fun a h0 h1 h2 => f2 a h0 (nC a h0 h1) h2
  have lt : ∀ a, Z.1 a ≠ 0 → a < r.1 := fun a h => E.lt h
  have ace : ac_eq S.2 S'.2 := ⟨eA _ (by decide), eA _ (by decide), eA _ (by decide), eA _ (by decide), eA _ (by decide), eA _ (by decide), eA _ (by decide), eA _ (by decide), eA _ (by decide)⟩
  have rwe : rw_eq nr S.2 S'.2 := fun j _ => ⟨by rw [eA _ (by decide)], by rw [eA _ (by decide)], by rw [eA _ (by decide)], by rw [eA _ (by decide)], by rw [eA _ (by decide)], by rw [eA _ (by decide)], by rw [eA _ (by decide)], by rw [eA _ (by decide)]⟩
  have est := eA 47 (by decide)
  have spU : ∀ o, k_sp U' own o = k_sp U own o := fun o => by unfold k_sp; rw [u3 _ (by omega)]
  have spt : ∀ o, o < n → Z.1 (k_sp U own o) = 10 := fun o ho => k_sp_t E.1 tO kLk.1 ho
  have rT : ∀ y ∈ U.2.1 (own + 18), Z.1 y = 8 := fun y hy => E.1.lro t18 hy
  have dT : ∀ u, 1 ≤ u → u ≤ b → Z.1 (dl U own u) = 3 ∧ Z.1 (dl U own u + 1) = 2 ∧ Z.1 (dl U own u + 2) = 105 := fun u u1 u2 => dl_t E kDe.1 u1 u2
  have dP : ∀ f u, 1 ≤ u → u ≤ b → P'.1 f (dl U own u) = P.1 f (dl U own u) := fun f u u1 u2 => by
    have := (dT u u1 u2).1
    exact fP f _ (by rw [this]; decide) (by rw [this]; decide) (by rw [this]; decide) (by rw [this]; decide)
  have aP : ∀ f u, 1 ≤ u → u ≤ b → P'.1 f (dl U own u + 1) = P.1 f (dl U own u + 1) := fun f u u1 u2 => by
    have := (dT u u1 u2).2.1
    exact fP f _ (by rw [this]; decide) (by rw [this]; decide) (by rw [this]; decide) (by rw [this]; decide)
  have shk : ∀ s x0, (s = own + 1 ∧ x0 = 0) ∨ (s = own + 5 ∧ x0 = 40) → k_Sh Z P U s n → R_sh P U s n S.2 x0 → k_Sh Z' P' U' s n ∧ R_sh P' U' s n S'.2 x0 := fun s x0 hsx hs hS => by
    have sne : s + 1 ≠ own + 10 := by rcases hsx with h | h <;> omega
    have th : ∀ o, k_th U' s o = k_th U s o := fun o => by unfold k_th; rw [u3 _ sne]
    have ts := hs.1
    have ts1 := (E.1.shf ts).1
    have thx : ∀ o, o < n → ∀ i, U'.2.2 (own + 10) i ≠ some (k_th U s o) := fun o ho i z => by
      have g1 : U'.2.2 (s + 1) o = some (k_th U s o) := by rw [u3 _ sne]; exact hs.2.2.2 o ho
      exact sne (E'.2.2.2.1 _ o _ i _ (Or.inl (by rw [fZ _ (by rw [ts1]; decide)]; exact ts1)) (Or.inl t10') g1 z).1
    have tt : ∀ o, o < n → Z.1 (k_th U s o) = 12 ∧ Z.1 (k_th U s o + 1) = 108 := fun o ho => k_th_t E.1 hs ho
    have x80 : x0 + n ≤ 80 := by rcases hsx with h | h <;> omega
    refine ⟨⟨(fZ _ (by rw [ts]; decide)).trans ts, ?_, hs.2.2.1, fun o ho => by rw [th, u3 _ sne]; exact hs.2.2.2 o ho⟩, R_sh.cgU (U := U) ?_ (fun o _ => th o)⟩
    · refine (f1 _ _ (by rw [ts]; decide) (nT _ (by rw [ts]; decide) (by rw [ts]; decide)) ?_ ?_).trans hs.2.1
      · rcases hsx with h | h <;> omega
      · rcases hsx with h | h <;> omega
    · refine hS.keep (fun f hf o ho => ?_) (fun o ho => ?_) (eA _ (by decide)) (eA _ (by decide)) (eA _ (by decide)) (fun o ho => el _ (by omega)) (fun x _ hx => ei x (by omega))
      · have := (tt o ho).1
        exact f1 f _ (by rw [this]; decide) (thx o ho) (fun z => by rw [z, a3] at this; exact absurd this (by decide)) (fun z => by rw [z, show own + 11 = own + 9 + 2 from rfl, (E.1.shf a3).2.1] at this; exact absurd this (by decide))
      · have := (tt o ho).2
        refine f2 _ (by rw [this]; decide) (fun i x z e => ?_) (fun z => by rw [z, o12] at this; exact absurd this (by decide))
        have : k_th U s o = x := by omega
        rw [← this] at z
        exact thx o ho i z
  refine ⟨E', ?_, shk _ _ (Or.inl ⟨rfl, rfl⟩) hs1 hS, shk _ _ (Or.inr ⟨rfl, rfl⟩) hs5 hS5, ?_, ?_, ?_, ?_, ?_, ?_⟩
  · exact kLg.ext (xs := []) (by rw [u2, List.append_nil]) (by simp) (fun y hy => by cases hy) rwe ace (fun f hf y hy => fP f y (by rw [rT y hy]; decide) (by rw [rT y hy]; decide) (by rw [rT y hy]; decide) (by rw [rT y hy]; decide)) (fun j y hy => by simp at hy) (fun u u1 u2 hus => ⟨rfl, by unfold undw at hus ⊢; rw [est] at hus; exact hus⟩) har
  · refine kDe.cg (by rw [u2]) (by rw [u2]) (Nat.le_refl _) (by unfold v_lv; rw [eA _ (by decide)]) lvm (fun u u1 u2 f hf => dP f u u1 u2) (fun u u1 u2 p hp => ?_) (fun u u1 u2 v v1 v2 v3 => ?_) (fun u u1 u2 hus => ⟨⟨by unfold undw at hus ⊢; rw [est] at hus; exact hus, fun z => by unfold undw at z ⊢; rw [est] at z; exact z⟩, fun j hj => Or.inl ⟨hj, ar_cg ace j⟩⟩)
    · rw [dP _ u u1 u2, eA p.2 (by clear fP fP2 eA eF nT nC f1 f2 dP aP; revert p; decide)]
      exact kDe.p u1 u2 p hp
    · rw [eA _ (by decide)] at v2
      have := (dT u u1 u2).2.2
      rw [fP2 _ (by rw [this]; decide) (by rw [this]; decide) (fun z => by rw [z, o12] at this; exact absurd this (by decide)), eA _ (by decide)]
      exact kDe.2.2.2.1 u u1 u2 v v1 v2 v3
  · exact kEn.cg (by rw [u2]) (by rw [u2]) (eA _ (by decide))
  · exact kAs.cg (by rw [u2]) (fun u u1 u2 hin => ⟨by unfold inp at hin ⊢; rw [est] at hin; exact hin, fun f hf => aP f u u1 u2, fun f hf => by rw [eA f (by clear fP fP2 eA eF nT nC f1 f2 dP aP; revert f; decide)]⟩) (eA _ (by decide))
  · have lkP : ∀ o y, o < n → y ∈ k_hl U own o ∨ y ∈ k_ql U own o → Z.1 y = 4 := fun o y ho hy => by
      rcases hy with hy | hy
      · exact E.1.llo (E.1.spt (spt o ho)).1 hy
      · exact E.1.llo (E.1.spt (spt o ho)).2.1 hy
    refine kLk.cgZ (fun f hf => eA f (by clear fP fP2 eA eF nT nC f1 f2 dP aP; revert f; decide)) (fun _ _ _ _ => by rw [eA _ (by decide)]) (by rw [u2]) spU (fun o ho => by rw [spU, u3 _ (by omega)]; exact kLk.1 o ho) (fun o ho => ?_) (fun o ho => ?_) (fun o y ho hy => ⟨by rw [fZ2], fun f hf => ?_⟩) (fun u u1 u2 f hf => dP f u u1 u2) (fun o ho => ?_) (fun u _ _ => by rw [u1])
    · unfold k_hl; rw [spU, u2]
    · unfold k_ql; rw [spU, u2]
    · have := lkP o y ho hy
      exact fP f y (by rw [this]; decide) (by rw [this]; decide) (by rw [this]; decide) (by rw [this]; decide)
    · have := spt o ho
      exact fP _ _ (by rw [this]; decide) (by rw [this]; decide) (by rw [this]; decide) (by rw [this]; decide)
  · refine kVe.cg spU (fun o ho => ?_) (fun f hf => eA f (by clear fP fP2 eA eF nT nC f1 f2 dP aP; revert f; decide))
    have t := spt o ho
    obtain ⟨s1, s2, s3, s4⟩ := E.1.spt t
    exact ⟨fP _ _ (by rw [t]; decide) (by rw [t]; decide) (by rw [t]; decide) (by rw [t]; decide), fP2 _ (by rw [s3]; decide) (by rw [s3]; decide) (fun z => by rw [show k_sp U own o = own + 9 by omega, a3] at t; exact absurd t (by decide)), fP2 _ (by rw [s4]; decide) (by rw [s4]; decide) (fun z => by
      have e : k_sp U own o + 1 = own + 9 := by omega
      rw [e, a3] at s1; exact absurd s1 (by decide))⟩
  · have mP : ∀ p ∈ mis, P'.1 p.1 (own + p.2.1) = P.1 p.1 (own + p.2.1) := fun p hp => by
      have : p.2.1 = 0 ∨ p.2.1 = 17 ∨ p.2.1 = 25 ∨ p.2.1 = 19 ∨ p.2.1 = 3 := by clear fP fP2 eA eF nT nC f1 f2 dP aP; revert p; decide
      rcases this with h | h | h | h | h <;> rw [h]
      · exact fP _ _ (by rw [Nat.add_zero, tO]; decide) (by rw [Nat.add_zero, tO]; decide) (by rw [Nat.add_zero, tO]; decide) (by rw [Nat.add_zero, tO]; decide)
      · exact fP _ _ (by rw [a8]; decide) (by rw [a8]; decide) (by rw [a8]; decide) (by rw [a8]; decide)
      · exact fP _ _ (by rw [a10]; decide) (by rw [a10]; decide) (by rw [a10]; decide) (by rw [a10]; decide)
      · exact fP _ _ (by rw [a9]; decide) (by rw [a9]; decide) (by rw [a9]; decide) (by rw [a9]; decide)
      · have t3 : Z.1 (own + 3) = 6 := (E.1.shf a1).2.1
        exact f1 _ _ (by rw [t3]; decide) (nT _ (by rw [t3]; decide) (by rw [t3]; decide)) (by omega) (by omega)
    have o24 : Z.1 (own + 24) = 112 := by rw [show own + 24 = own + 19 + 5 from rfl]; exact (E.1.rng a9).2.2.2.2
    have o4 : Z.1 (own + 4) = 116 := by rw [show own + 4 = own + 1 + 3 from rfl]; exact (E.1.shf a1).2.2
    refine kMi.cg (fun p hp => Or.inl ⟨mP p hp, eF _ (by clear mP fP fP2 eA eF nT nC f1 f2 dP aP; revert p; decide)⟩) (fP _ _ (by rw [a9]; decide) (by rw [a9]; decide) (by rw [a9]; decide) (by rw [a9]; decide)) (eF _ (by decide)) (eF _ (by decide)) (fP2 _ (by rw [o24]; decide) (by rw [o24]; decide) (by omega)) (eA _ (by decide)) (fun y y1 y2 => ?_)
    rw [eF _ (by decide)] at y1
    rw [fP2 _ (by rw [o4]; decide) (by rw [o4]; decide) (by omega), eA _ (by decide)]
    exact (mi_iff.mp kMi).2.2.2 y y1 y2
end VK
