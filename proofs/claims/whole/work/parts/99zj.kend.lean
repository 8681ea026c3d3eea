/-! an act ends: the class's side -/
section TM
variable {Z Z' : k_Z} {P P' : k_P} {U U' : k_U} {r r' : Nat × Nat} {S S' : m_S} {N own n b l nl nl' nw nr nr' na ne t c T : Nat} {dr : Bool} {ch ch' : Nat → List Nat}
def fp_ce : List Nat := [100, 101, 102, 103, 223, 49, 46, 48, 204, 203, 24, 25]
theorem K_end (hI : I_all n b l nl nw nr na ne ch t c T S) (hK : K_all N own n b l nl nw nr ne ch t Z P U r S) (h1 : 1 ≤ t) (E' : k_E N own Z' U' r') (lg' : K_lg own b nr' ch' P' U' S') (hle : nr ≤ nr')
    (fZ : ∀ a, a < r.1 → Z'.1 a = Z.1 a ∧ Z'.2.2 a = Z.2.2 a) (fU1 : ∀ a, a < r.1 → U'.1 a = U.1 a) (fU22 : ∀ a, a < r.1 → U'.2.2 a = U.2.2 a) (fUL : ∀ a, a < r.1 → Z.1 a ≠ 31 → a ≠ own + 18 → U'.2.1 a = U.2.1 a)
    (fP : ∀ f a, a < r.1 → f ∉ fp_ce → P'.1 f a = P.1 f a) (fPd : ∀ u, 1 ≤ u → u ≤ b → u ≠ t → ∀ f ∈ [49, 46, 48], P'.1 f (dl U own u) = P.1 f (dl U own u)) (fPa : ∀ u, 1 ≤ u → u ≤ b → u ≠ t → ∀ f ∈ [24, 25], P'.1 f (dl U own u + 1) = P.1 f (dl U own u + 1)) (fPt : ∀ o, o < n → P'.1 223 (k_th U (own + 5) o) = P.1 223 (k_th U (own + 5) o)) (fP2 : ∀ a, a < r.1 → a ≠ own + 4 → (∀ o, o < n → a ≠ k_th U (own + 1) o + 1) → P'.2 a = P.2 a)
    (sh : R_sh P' U (own + 1) n S'.2 0) (eA : ∀ f, f ∉ fp_c → S'.2 f = S.2 f) (eF : ∀ f, f ∉ fp_cF → S'.1 f = S.1 f) (hiV : ∀ i, n ≤ i → S'.2 9 i = S.2 9 i ∧ S'.2 10 i = S.2 10 i ∧ S'.2 11 i = S.2 11 i) (hiI : ∀ i, 8 * n ≤ i → S'.2 12 i = S.2 12 i)
    (prT : ∀ p ∈ prs, P'.1 p.1 (dl U own t) = S'.2 p.2 t) (prO : ∀ u, u ≠ t → S'.2 52 u = S.2 52 u ∧ S'.2 56 u = S.2 56 u ∧ S'.2 57 u = S.2 57 u)
    (m1 : P'.1 204 (own + 25) = S'.1 65) (m2 : P'.1 203 (own + 25) = S'.1 64) (m3 : P'.1 103 (own + 3) = S'.1 30) (m4 : ∀ i, nI i < S'.1 30 → i < 16 → P'.2 (own + 4) i = S'.2 31 i)
    (eh : ∀ o, o < n → k_hl U' own o = (k_hl U own o).filter (fun y => !(dr && k_goes Z P (dl U own t) 0 (S.2 55 t) y))) (eq : ∀ o, o < n → k_ql U' own o = k_ql U own o) (vL : v_L nl' S'.2 = ((v_L nl S.2).filter (kp dr t)).map (uf t))
    (hc : ∀ u, 1 ≤ u → u ≤ b → undw S'.2 u ∨ S'.2 47 u = 3 → ∀ j ∈ ch' u, (j ∈ ch u ∧ ar S'.2 j = ar S.2 j) ∨ (undw S.2 u ∧ nr ≤ ar S'.2 j)) : K_all N own n b l nl' nw nr' ne ch' 0 Z' P' U' r' S' := by
  obtain ⟨hL, hD, hE, hLk, hV, hM, hP, hX⟩ := hI
  obtain ⟨tm, t2, st⟩ := lv_mem hD h1
  obtain ⟨E, kLg, ⟨hs, hS⟩, ⟨hs5, hS5⟩, kDe, kEn, kAs, kLk, kVe, kMi⟩ := hK
  have tO := E.2.1
  obtain ⟨a1, a2, a3, a4, a5, a6, a7, a8, a9, a10⟩ := E.1.hse tO
  have lt : ∀ a, Z.1 a ≠ 0 → a < r.1 := fun a h => E.lt h
  have l14 := lt (own + 14) (by rw [a5]; decide)
  have l15 := lt (own + 15) (by rw [a6]; decide)
  have l16 := lt (own + 16) (by rw [a7]; decide)
  have l13 := lt (own + 13) (by rw [a4]; decide)
  have u14 : U'.2.1 (own + 14) = U.2.1 (own + 14) := fUL _ l14 (by rw [a5]; decide) (by omega)
  have u15 : U'.2.1 (own + 15) = U.2.1 (own + 15) := fUL _ l15 (by rw [a6]; decide) (by omega)
  have u16 : U'.2.1 (own + 16) = U.2.1 (own + 16) := fUL _ l16 (by rw [a7]; decide) (by omega)
  have spU : ∀ o, k_sp U' own o = k_sp U own o := fun o => by unfold k_sp; rw [fU22 _ l13]
  have spt : ∀ o, o < n → Z.1 (k_sp U own o) = 10 := fun o ho => k_sp_t E.1 tO kLk.1 ho
  have est := eA 47 (by decide)
  have lve : v_lv l S'.2 = v_lv l S.2 := by unfold v_lv; rw [eA _ (by decide)]
  have lvm : ∀ u ∈ v_lv l S.2, 1 ≤ u ∧ u ≤ b := fun u hu => ⟨((hD.2.2.2.2.2.2.2.2.1 u).mp hu).1, ((hD.2.2.2.2.2.2.2.2.1 u).mp hu).2.1⟩
  have dlt : ∀ u, 1 ≤ u → u ≤ b → dl U own u < r.1 ∧ dl U own u + 1 < r.1 ∧ dl U own u + 2 < r.1 := fun u u1 u2 => by
    obtain ⟨q1, q2, q3⟩ := dl_t E kDe.1 u1 u2
    exact ⟨lt _ (by rw [q1]; decide), lt _ (by rw [q2]; decide), lt _ (by rw [q3]; decide)⟩
  have t2r := (E.1.shf a1)
  have t6r := (E.1.shf a2)
  have l2 : own + 1 + 1 < r.1 := lt _ (by rw [t2r.1]; decide)
  have l6 : own + 5 + 1 < r.1 := lt _ (by rw [t6r.1]; decide)
  have ths : ∀ o, o < n → Z.1 (k_th U (own + 1) o) = 12 := fun o ho => (k_th_t E.1 hs ho).1
  have thc : ∀ a, (∀ x, a = x + 1 → Z.1 x ≠ 12) → ∀ o, o < n → a ≠ k_th U (own + 1) o + 1 := fun a h o ho e => h _ e (ths o ho)
  have shk : ∀ s, s = own + 1 ∨ s = own + 5 → s + 1 < r.1 → k_Sh Z P U s n → k_Sh Z' P' U' s n := fun s hs9 ls hs => by
    have t9 : Z.1 s = 9 := hs.1
    have sl := lt s (by rw [t9]; decide)
    refine ⟨(fZ s sl).1.trans t9, (fP _ _ sl (by decide)).trans hs.2.1, hs.2.2.1, fun o ho => ?_⟩
    have := hs.2.2.2 o ho
    unfold k_th at this ⊢
    rw [fU22 _ ls]; exact this
  refine ⟨E', lg', ⟨shk _ (Or.inl rfl) l2 hs, R_sh.cgU (U := U) sh (fun o _ => by unfold k_th; rw [fU22 _ l2])⟩, ⟨shk _ (Or.inr rfl) l6 hs5, R_sh.cgU (U := U) ?_ (fun o _ => by unfold k_th; rw [fU22 _ l6])⟩, ?_, kEn.cg u14 u16 (eA _ (by decide)), ?_, ?_, ?_, ?_⟩
  · have n40 := hs.2.2.1
    have thl : ∀ o, o < n → k_th U (own + 5) o < r.1 ∧ k_th U (own + 5) o + 1 < r.1 := fun o ho => by
      obtain ⟨q1, q2⟩ := k_th_t E.1 hs5 ho
      exact ⟨lt _ (by rw [q1]; decide), lt _ (by rw [q2]; decide)⟩
    have dj : ∀ o o', o < n → o' < n → k_th U (own + 5) o ≠ k_th U (own + 1) o' := fun o o' ho ho' e => by
      have := (E.2.2.2.1 _ o _ o' _ (Or.inl t6r.1) (Or.inl t2r.1) (hs5.2.2.2 o ho) (by rw [e]; exact hs.2.2.2 o' ho')).1
      omega
    refine hS5.keep (fun f hf o ho => ?_) (fun o ho => fP2 _ (thl o ho).2 ?_ (fun o' ho' e => dj o o' ho ho' (by omega))) (eA _ (by decide)) (eA _ (by decide)) (eA _ (by decide)) (fun o _ => hiV _ (by omega)) (fun x x1 _ => hiI x (by omega))
    · by_cases c : f = 223
      · rw [c]; exact fPt o ho
      · exact fP f _ (thl o ho).1 (by rcases hf with rfl | rfl | rfl | rfl; decide; decide; decide; exact absurd rfl c)
    · intro e
      have q1 := (k_th_t E.1 hs5 ho).1
      have : k_th U (own + 5) o = own + 3 := by omega
      rw [this, show own + 3 = own + 1 + 2 from rfl, t2r.2.1] at q1
      exact absurd q1 (by decide)
  · refine kDe.cg u14 u15 hle lve lvm (fun u u1 u2 f hf => fP f _ (dlt u u1 u2).1 (by revert f; decide)) (fun u u1 u2 p hp => ?_) (fun u u1 u2 v v1 v2 v3 => ?_) (fun u u1 u2 hus => ⟨⟨by unfold undw at hus ⊢; rw [est] at hus; exact hus, fun z => by unfold undw at z ⊢; rw [est] at z; exact z⟩, hc u u1 u2 hus⟩)
    · by_cases e : u = t
      · subst e; exact prT p hp
      · have old := kDe.p u1 u2 p hp
        by_cases c : p.1 ∈ [49, 46, 48]
        · rw [fPd u u1 u2 e _ c, old]
          obtain ⟨z1, z2, z3⟩ := prO u e
          have : p.2 = 52 ∨ p.2 = 56 ∨ p.2 = 57 := by clear old; revert p; decide
          rcases this with z | z | z <;> rw [z]
          · exact z1.symm
          · exact z2.symm
          · exact z3.symm
        · rw [fP _ _ (dlt u u1 u2).1 (by clear old; revert p; decide), old, eA _ (by clear old; revert p; decide)]
    · rw [fP2 _ (dlt u u1 u2).2.2 ?_ (thc _ (fun x e z => ?_)), eA 54 (by decide)]
      · rw [eA 51 (by decide)] at v2
        exact kDe.2.2.2.1 u u1 u2 v v1 v2 v3
      · intro e
        have q3 := (dl_t E kDe.1 u1 u2).2.1
        have : dl U own u + 1 = own + 3 := by omega
        rw [this, show own + 3 = own + 1 + 2 from rfl, t2r.2.1] at q3
        exact absurd q3 (by decide)
      · have : x = dl U own u + 1 := by omega
        rw [this, (dl_t E kDe.1 u1 u2).2.1] at z
        exact absurd z (by decide)
  · refine kAs.cg u14 (fun u u1 u2 hin => ?_) (eA _ (by decide))
    have s2 : S.2 47 u = 2 := by
      unfold inp at hin
      rw [est] at hin
      rcases hin with z | z
      · exact z
      · omega
    have hne : u ≠ t := fun e => by rw [e, st] at s2; exact absurd s2 (by decide)
    refine ⟨Or.inl s2, fun f hf => ?_, fun f hf => by rw [eA f (by revert f; decide)]⟩
    by_cases c : f ∈ [24, 25]
    · exact fPa u u1 u2 hne f c
    · exact fP f _ (dlt u u1 u2).2.1 (by revert f; decide)
  · refine kLk.fin (dr := dr) hLk h1 t2 hD.1 kDe.1 kDe.2.1 (fun u u1 u2 => (kDe.2.2.1 u u1 u2).1) (fun u u1 u2 => (kDe.2.2.1 u u1 u2).2.2.2.1) (fun u u1 u2 => (kDe.2.2.1 u u1 u2).2.2.2.2.2.2.2.1) (fun u u1 u2 e => ?_) st (fun u u1 u2 => ?_) u14 spU (fun o ho => by rw [spU, fU22 _ l13]; exact kLk.1 o ho) eh eq (fun o y ho hy => ?_) (fun u u1 u2 f hf => fP f _ (dlt u u1 u2).1 (by revert f; decide)) (fun o ho => fP _ _ (lt _ (by rw [spt o ho]; decide)) (by decide)) (fun u u1 u2 => fU1 _ (dlt u u1 u2).1) (fun f hf => eA f (by revert f; decide)) vL
    · have := (dl_t E kDe.1 u1 u2).1
      rw [e, tO] at this
      exact absurd this (by decide)
    · obtain ⟨_, _, _, q, _, _, _, _, _, _, _, _, z1, z2, _⟩ := hD.2.2.1 u u1 u2
      exact ⟨q, z1, z2⟩
    · have yl : Z.1 y = 4 := by
        rcases hy with hy | hy
        · exact E.1.llo (E.1.spt (spt o ho)).1 hy
        · exact E.1.llo (E.1.spt (spt o ho)).2.1 hy
      have := lt y (by rw [yl]; decide)
      exact ⟨(fZ y this).2, fun f hf => fP f y this (by revert f; decide)⟩
  · refine kVe.cg spU (fun o ho => ?_) (fun f hf => eA f (by revert f; decide))
    obtain ⟨s1, s2, s3, s4⟩ := E.1.spt (spt o ho)
    refine ⟨fP _ _ (lt _ (by rw [spt o ho]; decide)) (by decide), fP2 _ (lt _ (by rw [s3]; decide)) ?_ (thc _ (fun x e z => ?_)), fP2 _ (lt _ (by rw [s4]; decide)) ?_ (thc _ (fun x e z => ?_))⟩
    · intro e
      have : k_sp U own o + 2 = own + 3 := by omega
      rw [this, show own + 3 = own + 1 + 2 from rfl, t2r.2.1] at s2
      exact absurd s2 (by decide)
    · have : x = k_sp U own o + 2 := by omega
      rw [this, s2] at z; exact absurd z (by decide)
    · intro e
      have : k_sp U own o + 3 = own + 3 := by omega
      rw [this, show own + 3 = own + 1 + 2 from rfl, t2r.2.1] at s3
      exact absurd s3 (by decide)
    · have : x = k_sp U own o + 3 := by omega
      rw [this, s3] at z; exact absurd z (by decide)
  · have lo := lt own (by rw [tO]; decide)
    have l17 := lt (own + 17) (by rw [a8]; decide)
    have l25 := lt (own + 25) (by rw [a10]; decide)
    have l19 := lt (own + 19) (by rw [a9]; decide)
    have l3 : own + 3 < r.1 := lt _ (by rw [show own + 3 = own + 1 + 2 from rfl, t2r.2.1]; decide)
    have rg := E.1.rng a9
    have lq : ∀ p ∈ mis, own + p.2.1 < r.1 := by
      simp only [mis, List.mem_cons, List.not_mem_nil, or_false, forall_eq_or_imp, forall_eq]
      exact ⟨lo, lo, l17, l17, l17, l25, l25, l25, l25, l25, l25, l25, l19, l3⟩
    refine kMi.cg (fun p hp => ?_) (fP _ _ l19 (by decide)) (eF _ (by decide)) (eF _ (by decide)) (fP2 _ (lt _ (by rw [show own + 24 = own + 19 + 5 from rfl, rg.2.2.2.2]; decide)) (by omega) (thc _ (fun x e z => ?_))) (eA _ (by decide)) m4
    · have lp := lq p hp
      by_cases c1 : p = (204, 25, 65)
      · right; rw [c1]; exact m1
      · by_cases c2 : p = (203, 25, 64)
        · right; rw [c2]; exact m2
        · by_cases c3 : p = (103, 3, 30)
          · right; rw [c3]; exact m3
          · left
            exact ⟨fP _ _ lp (by clear lp lq; revert p; decide), eF _ (by clear lp lq; revert p; decide)⟩
    · have : x = own + 19 + 4 := by omega
      rw [this, rg.2.2.2.1] at z; exact absurd z (by decide)
end TM
