/-! carryOut beside the reference -/
section TO
variable {g : e_G} {Ψ : e_Q} {B : Nat → Option e_Cl} {Z : k_Z} {P P0 : k_P} {U : k_U} {S : m_S} {N own n b l nl nw nr na ne t q c T m sl : Nat} {ch : Nat → List Nat}
/-- what carryOut leaves -/
def Q_c (Ψ : e_Q) (B : Nat → Option e_Cl) (N own n b l nw ne c T t : Nat) (Z : k_Z) (U : k_U) (r : Nat × Nat) (S : m_S) : Prop :=
  ∀ Z' P' U' r' S' nl' nr' na' ch' x, I_all n b l nl' nw nr' na' ne ch' 0 c (T + x) S' → K_all N own n b l nl' nw nr' ne ch' 0 Z' P' U' r' S' → U'.2.1 (own + 14) = U.2.1 (own + 14) → k_ro N x (10 * x) Z.2.1 r Z'.2.1 r' → S'.1 66 = S.1 66 → S'.2 47 = S.2 47 → S'.2 71 = S.2 71 → r_do t S S' → Ψ none (K_H Z' P' U' (B, r'))
theorem s_carry (hg : e_GK g) (hA : e_AK g) (h1 : 1 ≤ t) (hI : I_all n b l nl nw nr na ne ch t c T S) (hcu : I_cu t nl S.2) (eq : S.2 71 t = nI q) (hq : q ≤ 12) (hv : needAt S.2 t q = none) (hK : K_all N own n b l nl nw nr ne ch t Z P0 U (m, sl) S) (eP : eqA (dl U own t) P0 P) (qc : Q_c Ψ B N own n b l nw ne c T t Z U (m, sl) S) :
    e_Sc g 142 [.ref own, .ref (dl U own t)] (K_H Z P U (B, (m, sl))) Ψ := by
  have hI0 := hI
  have hK0 := hK
  obtain ⟨tm, t2, st⟩ := lv_mem hI.2.1 h1
  have hak := ask_ok hI hK h1 t2 (Or.inr rfl)
  obtain ⟨hL, hD, hE, hLk, hV, hM, hPo, hX⟩ := hI
  obtain ⟨E, kLg, ⟨hs, hS⟩, ⟨hs5, hS5⟩, kDe, kEn, kAs, kLk, kVe, kMi⟩ := hK
  have n40 := hL.2.2.1.1
  have b400 := hD.1
  obtain ⟨n1, n2⟩ := nl_le hD hLk n40 hPo
  have nrl : nr ≤ 1024 := by have := hPo.1; have := hPo.2.1; have := hPo.2.2.1; omega
  obtain ⟨o, k, eo, ho, ek, hk, har⟩ := hX t h1 t2 (Or.inr rfl)
  obtain ⟨b1, b2, b3, b4, _⟩ := kAs t h1 t2 (Or.inr rfl)
  have tO := E.2.1
  obtain ⟨a1, a2, a3, a4, a5, a6, a7, a8, a9, a10⟩ := E.1.hse tO
  obtain ⟨td, ta, tb⟩ := dl_t E kDe.1 h1 t2
  have t3 : Z.1 (own + 3) = 6 := (E.1.shf a1).2.1
  have t18 : Z.1 (own + 18) = 32 := E.1.log a8
  have lt : ∀ a, Z.1 a ≠ 0 → a < m := fun a h => E.lt h
  have dlt : ∀ u, 1 ≤ u → u ≤ b → dl U own u < m := fun u u1 u2 => lt _ (by rw [(dl_t E kDe.1 u1 u2).1]; decide)
  have hP : ∀ f a, f ≠ 24 → f ≠ 25 → P.1 f a = P0.1 f a := fun f a z1 z2 => eP.1 f a (Or.inl ⟨z1, z2⟩)
  obtain ⟨z, zd, hz, ez, _⟩ := hL.2.2.1.2 o ho
  have hS' : R_sh P U (own + 1) n S.2 0 := hS.keep (fun f hf o ho => hP f _ (by rcases hf with rfl | rfl | rfl | rfl <;> decide) (by rcases hf with rfl | rfl | rfl | rfl <;> decide)) (fun o ho => by rw [eP.2]) rfl rfl rfl (fun _ _ => ⟨rfl, rfl, rfl⟩) (fun _ _ _ => rfl)
  have hs' : k_Sh Z P U (own + 1) n := ⟨hs.1, by rw [hP _ _ (by decide) (by decide)]; exact hs.2.1, hs.2.2.1, hs.2.2.2⟩
  have perf := perf_ok (S := y_di0 S) (k := k) (a := S.2 69 t) (b := S.2 70 t) hS' hs' (E.ap hs') hL.2.2.1 (Or.inl rfl) ho hk (Or.inr (by unfold y_di0; dsimp only; rw [up_n (by decide), up_n (by decide), up_s])) har (fun _ => by unfold y_di0; dsimp only; rw [up_n (by decide), up_n (by decide), up_n (by decide)]; exact hM.2.1)
  rw [Nat.zero_add] at perf
  have it : (Wk o k t S).2.1 29 = 1 := by
    have := (z_frW (x := o) (k := k) (a := S.2 69 t) (b := S.2 70 t) (S := y_di0 S)).1 29 (by decide) (by decide) (by decide) (by decide) (by decide)
    refine this.trans ?_
    unfold y_di0; dsimp only; rw [up_n (by decide), up_s]
  obtain ⟨r1, r2, r3, r4, r5, r6, r7, r8⟩ := perf
  have w1 : y_work o k (S.2 69 t) (S.2 70 t) (y_di0 S) = Wk o k t S := rfl
  rw [w1] at r1 r2 r3 r4 r5 r7 r8
  generalize hPp : k_perf P U (own + 1) n o (nI k) (S.2 69 t) (S.2 70 t) = Pp at *
  have fr : ∀ f a, f ∉ fp_pf → Pp.1 f a = P.1 f a := fun f a h => r6.1 f a (fun _ => ⟨nmem h (by decide), nmem h (by decide), nmem h (by decide), nmem h (by decide)⟩) (fun _ => nmem h (by decide))
  have fr2 : ∀ a, a ≠ own + 4 → (∀ o, o < n → a ≠ k_th U (own + 1) o + 1) → Pp.2 a = P.2 a := r6.2
  have r3 : Pp.1 101 (own + 3) = (Wk o k t S).2.1 25 := r3
  obtain ⟨tq, tq1, tq2, tq3, tq4⟩ : ∃ q, q ≤ 16 ∧ Pp.1 103 (own + 3) = nI q ∧ (Wk o k t S).2.1 30 = nI q ∧ ∀ i, i < q → Pp.2 (own + 4) i = (Wk o k t S).2.2 31 i := by
    rcases r2 with z | z
    · rw [it] at z; exact absurd z (by decide)
    · exact z
  have tr : ∃ q, q ≤ 16 ∧ (Wk o k t S).2.1 30 = nI q := ⟨tq, tq1, tq3⟩
  have hdo := r_do_ok hI0 hak h1 eo ho ek hk har
  have ask := (kDe.2.2.1 t h1 t2).2.2.2.2.2.2.2.1
  have num := (kDe.2.2.1 t h1 t2).1
  -- what both ways share
  have valP : ∀ o, o < n → Pp.1 223 (k_th U (own + 5) o) = P0.1 223 (k_th U (own + 5) o) := fun o ho => by
    have t5 := (E.1.shf a2).1
    have t1 := (E.1.shf a1).1
    have q5 := (k_th_t E.1 hs5 ho).1
    rw [r6.1 _ _ (fun e => by rw [e, t3] at q5; exact absurd q5 (by decide)) (fun ⟨o', ho', e⟩ => by
      have := (E.2.2.2.1 _ o _ o' _ (Or.inl t5) (Or.inl t1) (hs5.2.2.2 o ho) (by rw [e]; exact hs.2.2.2 o' ho')).1
      omega)]
    exact hP _ _ (by decide) (by decide)
  have lock1 : ∀ o y, o < n → y ∈ k_hl U own o → y < m := fun o y ho hy => lt y (by rw [E.1.llo (E.1.spt (k_sp_t E.1 tO kLk.1 ho)).1 hy]; decide)
  have hiV : ∀ i, n ≤ i → (Wk o k t S).2.2 9 i = S.2 9 i ∧ (Wk o k t S).2.2 10 i = S.2 10 i ∧ (Wk o k t S).2.2 11 i = S.2 11 i := fun i hi => r7.2.1 i (Or.inr (by omega))
  have hiI : ∀ i, 8 * n ≤ i → (Wk o k t S).2.2 12 i = S.2 12 i := fun i hi => r7.2.2 i (Or.inr (by omega))
  have s1W : ∀ f, f ≠ 57 → (S_1 o k t S).2 f = (Wk o k t S).2.2 f := fun f h => by unfold S_1; dsimp only; rw [up_n h]
  have s1T : (S_1 o k t S).1 30 = (Wk o k t S).2.1 30 := by unfold S_1; dsimp only; rw [up_n (by decide)]
  have s1L : (S_1 o k t S).2 57 = va_up (S.2 57) t ((Wk o k t S).2.1 25) := by unfold S_1; dsimp only; rw [up_s]
  have shW : ∀ (P' : k_P) (A' : m_A), (∀ f, f = 220 ∨ f = 221 ∨ f = 222 ∨ f = 223 → ∀ o, o < n → P'.1 f (k_th U (own + 1) o) = Pp.1 f (k_th U (own + 1) o)) → (∀ a, a < m → P'.2 a = Pp.2 a) → (∀ f ∈ [4, 5, 7, 9, 10, 11, 12], A' f = (Wk o k t S).2.2 f) → R_sh P' U (own + 1) n A' 0 := fun P' A' z1 z2 z3 => by
    refine r1.keep z1 (fun o ho => z2 _ (lt _ (by rw [(k_th_t E.1 hs ho).2]; decide))) (z3 _ (by decide)) (z3 _ (by decide)) (z3 _ (by decide)) (fun o _ => ⟨by rw [z3 _ (by decide)], by rw [z3 _ (by decide)], by rw [z3 _ (by decide)]⟩) (fun x _ _ => by rw [z3 _ (by decide)])
  refine h_carry hg hA E hs' kLk.1 td ho hk (by rw [hP _ _ (by decide) (by decide)]; exact b1.trans eo) (by rw [hP _ _ (by decide) (by decide)]; exact b2.trans ek) (by rw [hP _ _ (by decide) (by decide)]; exact b3) (by rw [hP _ _ (by decide) (by decide)]; exact b4) hz ((hS' o ho).1.trans ez) (fun z4 => ?_) (fun z5 hh n7 n21 => ?_) (fun o ho => by rw [hl_len kLk ho]; have := n2 o; omega) (by rw [kLg.1]; omega) hPp fr (fun hf U' hmap w' => ?_) (fun hf C' r' hr => ?_)
  · obtain ⟨v, v1, v2, _⟩ := (hS' o ho).2.2.2.1.1 (by rw [ez, z4]; rfl)
    exact ⟨v, v1, v2⟩
  · rw [Bool.and_eq_true, z5] at hh
    refine har.2.1 ?_ ?_
    all_goals
      have : k = 0 ∨ k = 1 ∨ k = 2 ∨ k = 3 ∨ k = 4 ∨ k = 5 ∨ k = 6 ∨ k = 7 ∨ k = 8 ∨ k = 9 ∨ k = 10 ∨ k = 11 ∨ k = 12 ∨ k = 13 ∨ k = 14 ∨ k = 15 ∨ k = 16 ∨ k = 17 ∨ k = 18 ∨ k = 19 ∨ k = 20 ∨ k = 21 := by omega
      rcases this with rfl | rfl | rfl | rfl | rfl | rfl | rfl | rfl | rfl | rfl | rfl | rfl | rfl | rfl | rfl | rfl | rfl | rfl | rfl | rfl | rfl | rfl <;> first | omega | exact absurd hh.2 (by decide) | exact absurd rfl n7 | exact absurd rfl n21
  · -- a finding
    have hf' : ¬ (Wk o k t S).2.1 25 = 0 := by rw [← r3]; exact hf
    obtain ⟨nl', i1, i2, i3, i4, i5⟩ := I_find hI0 h1 hk hf' tr
    have fPf : ∀ f a, f ≠ 49 → f ≠ 204 → (P_f Pp own (dl U own t)).1 f a = Pp.1 f a := fun f a z1 z2 => by unfold P_f; rw [k_rn z2, k_rn z1]
    have fP : ∀ f a, f ∉ fp_ce → (P_f Pp own (dl U own t)).1 f a = P0.1 f a := fun f a h => by
      rw [fPf f a (nmem h (by decide)) (nmem h (by decide)), fr f a (fun z => h ?_), hP f a (nmem h (by decide)) (nmem h (by decide))]
      have : ∀ f ∈ fp_pf, f ∈ fp_ce := by decide
      exact this f z
    have fd : (P_f Pp own (dl U own t)).1 49 (dl U own t) = (Wk o k t S).2.1 25 := by unfold P_f; rw [k_rn (by decide), k_rs]; exact r3
    have eA : ∀ f, f ∉ fp_c → (y_doIt t o k na nl S).2 f = S.2 f := fun f h => by rw [i3 f (nm_f h).2.1, s1_A (nm_f h).1]
    have eF : ∀ f, f ∉ fp_cF → (y_doIt t o k na nl S).1 f = S.1 f := fun f h => by rw [i4 f (nmem h (by decide)) (nmem h (by decide)), s1_F (nm_F h)]
    have same : ∀ f, f ∉ fp_L → f ∉ [31, 9, 10, 11, 12, 57] → (y_doIt t o k na nl S).2 f = S.2 f := fun f h1 h2 => by rw [i3 f h1, s1_A h2]
    have sp31 : ∀ o, o < n → Z.1 (k_sp U own o + 1) = 31 := fun o ho => (E.1.spt (k_sp_t E.1 tO kLk.1 ho)).1
    have fUL : ∀ a, Z.1 a ≠ 31 → U'.2.1 a = U.2.1 a := fun a h => hmap.2.2.2 a (fun o ho e => h (by rw [e]; exact sp31 o ho))
    have E' : k_E N own Z U' (m, sl) := ⟨w', E.2.1, E.2.2.1, fun a i a' i' x q1 q2 q3 q4 => E.2.2.2.1 a i a' i' x q1 q2 (by rw [← hmap.2.1]; exact q3) (by rw [← hmap.2.1]; exact q4), E.2.2.2.2.cg (Nat.le_refl _) (fun _ _ => rfl) (by rw [hmap.2.1])⟩
    have rwe : rw_eq nr S.2 (y_doIt t o k na nl S).2 := fun j _ => ⟨by rw [same _ (by decide) (by decide)], by rw [same _ (by decide) (by decide)], by rw [same _ (by decide) (by decide)], by rw [same _ (by decide) (by decide)], by rw [same _ (by decide) (by decide)], by rw [same _ (by decide) (by decide)], by rw [same _ (by decide) (by decide)], by rw [same _ (by decide) (by decide)]⟩
    have ace : ac_eq S.2 (y_doIt t o k na nl S).2 := ⟨same _ (by decide) (by decide), same _ (by decide) (by decide), same _ (by decide) (by decide), same _ (by decide) (by decide), same _ (by decide) (by decide), same _ (by decide) (by decide), same _ (by decide) (by decide), same _ (by decide) (by decide), same _ (by decide) (by decide)⟩
    have est := same 47 (by decide) (by decide)
    have u18 : U'.2.1 (own + 18) = U.2.1 (own + 18) := fUL _ (by rw [t18]; decide)
    have lg' : K_lg own b nr ch (P_f Pp own (dl U own t)) U' (y_doIt t o k na nl S) :=
      kLg.ext (xs := []) (by rw [List.append_nil]; exact u18) (by simp) (fun x hx => by cases hx) rwe ace (fun f hf y hy => fP f y (by revert f; decide)) (fun j x hx => by cases hx) (fun u u1 u2 hus => ⟨rfl, by unfold undw at hus ⊢; rw [est] at hus; exact hus⟩) (fun u u1 u2 hus j hj => ((hL.2.2.2.2.2.2.1 u u1 u2 hus).2.2.2.1 j hj).2.2.1)
    have spU : ∀ o, k_sp U' own o = k_sp U own o := fun o => by unfold k_sp; rw [hmap.2.1]
    refine qc Z _ U' (m, sl) _ nl' nr na ch 0 i1 (K_end (dr := true) hI0 hK0 h1 E' lg' (Nat.le_refl _) (fun a _ => ⟨rfl, rfl⟩) (fun a _ => by rw [hmap.1]) (fun a _ => by rw [hmap.2.1]) (fun a _ h _ => fUL a h) (fun f a _ h => fP f a h) (fun u u1 u2 hne f hf => ?_) (fun u u1 u2 hne f hf => ?_) (fun o ho => ?_) (fun a _ h1 h2 => ?_) ?_ eA eF (fun i hi => ?_) (fun i hi => ?_) (fun p hp => ?_) (fun u hne => ⟨by rw [same _ (by decide) (by decide)], by rw [same _ (by decide) (by decide)], by rw [i3 _ (by decide), s1L, up_n hne]⟩) ?_ ?_ ?_ (fun i hi1 hi2 => ?_) (fun o ho => ?_) (fun o ho => ?_) i2 (fun u u1 u2 hus j hj => Or.inl ⟨hj, by unfold ar; rw [ace.1]⟩)) (fUL _ (by rw [a5]; decide)) k_ro.rf (eF _ (by decide)) est (same _ (by decide) (by decide)) hdo
    · have dne : dl U own u ≠ dl U own t := fun e => hne (dl_inj kDe.1 kDe.2.1 u1 u2 h1 t2 e)
      unfold P_f
      by_cases c : f = 49
      · subst c; rw [k_rn (by decide), k_ra dne, fr _ _ (by decide)]; exact hP _ _ (by decide) (by decide)
      · rw [k_rn (by revert f; decide), k_rn c, fr _ _ (by revert f; decide)]; exact hP _ _ (by revert f; decide) (by revert f; decide)
    · have dne : dl U own u + 1 ≠ dl U own t + 1 := fun e => hne (dl_inj kDe.1 kDe.2.1 u1 u2 h1 t2 (by omega))
      rw [fPf _ _ (by revert f; decide) (by revert f; decide), fr _ _ (by revert f; decide)]
      exact eP.1 f _ (Or.inr dne)
    · rw [fPf _ _ (by decide) (by decide)]; exact valP o ho
    · show Pp.2 a = P0.2 a
      rw [fr2 a h1 h2, eP.2]
    · exact shW _ _ (fun f hf o ho => fPf f _ (by rcases hf with rfl | rfl | rfl | rfl <;> decide) (by rcases hf with rfl | rfl | rfl | rfl <;> decide)) (fun a _ => rfl) (fun f hf => by rw [i3 f (by revert f; decide), s1W f (by revert f; decide)])
    · rw [i3 _ (by decide), i3 _ (by decide), i3 _ (by decide), s1W _ (by decide), s1W _ (by decide), s1W _ (by decide)]; exact hiV i hi
    · rw [i3 _ (by decide), s1W _ (by decide)]; exact hiI i hi
    · by_cases c : p.1 = 49
      · have : p = (49, 57) := by revert p; decide
        rw [this]
        show (P_f Pp own (dl U own t)).1 49 (dl U own t) = (y_doIt t o k na nl S).2 57 t
        rw [fd, i3 _ (by decide), s1L, up_s]
      · rw [fPf _ _ c (by revert p; decide), fr _ _ (by revert p; decide), hP _ _ (by revert p; decide) (by revert p; decide), kDe.p h1 t2 p hp, same _ (by revert p; decide) (by revert p; decide)]
    · rw [i5]; unfold P_f; rw [k_rs, fr _ _ (by decide), hP _ _ (by decide) (by decide)]
      exact congrArg (· + 1) kMi.2.2.2.2.2.2.2.2.2.1
    · rw [i4 _ (by decide) (by decide), s1_F (by decide), fPf _ _ (by decide) (by decide), fr _ _ (by decide), hP _ _ (by decide) (by decide)]
      exact kMi.2.2.2.2.2.2.2.2.1
    · rw [i4 _ (by decide) (by decide), s1T, tq3, fPf _ _ (by decide) (by decide)]; exact tq2
    · rw [i4 _ (by decide) (by decide), s1T, tq3, i_lt (by omega) (by omega)] at hi1
      rw [i3 _ (by decide), s1W _ (by decide)]
      exact tq4 i hi1
    · show U'.2.1 (k_sp U' own o + 1) = _
      rw [spU, hmap.2.2.1 o ho]
      refine List.filter_congr (fun y hy => ?_)
      rw [Bool.true_and]
      unfold k_goes
      rw [fP _ _ (by decide), fP _ _ (by decide), hP _ _ (by decide) (by decide), ask]
    · show U'.2.1 (k_sp U' own o + 2) = _
      rw [spU]
      exact hmap.2.2.2 _ (fun o' ho' e => (sp_ne E kLk.1 ho ho').2.1 e)
  · -- it was done
    have hf' : (Wk o k t S).2.1 25 = 0 := by rw [← r3]; exact hf
    have hlk : k < 18 → ∃ x ∈ v_L nl S.2, x.1 = nI t ∧ x.2.1 = nI o ∧ x.2.2.1 = 4 ∧ x.2.2.2.1 = nI k ∧ x.2.2.2.2.1 = S.2 69 t := fun z => by
      have := held_of hcu eq hq hv z ek
      rw [eo] at this
      exact this
    have h18 : k = 18 → ∃ q, q < n ∧ S.2 9 o = nI q ∧ (Wk o k t S).2.1 26 = nI q := fun z => by
      obtain ⟨q, q1, q2, q3⟩ := r8 z hf'
      rw [Nat.zero_add] at q2
      exact ⟨q, q1, q2, q3⟩
    have sv := r5 hf'
    obtain ⟨i1, hD1⟩ := I_did hI0 hak h1 eo ho ek hk har hlk hf' tr sv.2.1 h18
    have hw2 := wk_do (o := o) (t := t) (S := S) hk
    have hdo' := hdo
    generalize y_doIt t o k na nl S = S' at *
    have hD2 := hD1
    obtain ⟨fA, fF, c1, c2, c3, c4, c5, c6, c7, c8, c9, d1, d2, vL⟩ := hD1
    have same : ∀ f, f ∉ fp_c → S'.2 f = S.2 f := fun f h => by
      rw [fA f (nm_f h).2.2 (fun z => h ?_), s1_A (nm_f h).1]
      have : ∀ f ∈ [79, 34, 35, 36, 37, 38, 39, 40, 41, 42, 43, 53, 52, 56], f ∈ fp_c := by decide
      exact this f z
    have eF : ∀ f, f ∉ fp_cF → S'.1 f = S.1 f := fun f h => by rw [fF f (nmem h (by decide)) (nmem h (by decide)) (nmem h (by decide)), s1_F (nm_F h)]
    have est := same 47 (by decide)
    have bqe : (if k = 18 then k_num P U (own + 1) o else S.2 70 t) = (if k = 18 then (Wk o k t S).2.1 26 else S.2 70 t) := by
      by_cases z : k = 18
      · rw [if_pos z, if_pos z]
        obtain ⟨q, q1, q2, q3⟩ := h18 z
        have ys : y_sort (y_di0 S).1 S.2 o = S.2 4 o := by unfold y_sort; rw [if_neg (by omega), Nat.mod_eq_of_lt (by omega)]
        have hh : y_has (S.2 4 o) (nI k) = true := by rw [← ys]; exact hw2.2.1 hf'
        have s7 : S.2 4 o = 7 := by rw [z, show nI 18 = 18 from rfl, yh_18] at hh; simpa using hh
        unfold k_num
        rw [(hS' o ho).1, if_pos s7, q3]
        have := ((hS' o ho).2.2.2.1.2.2 (by rw [s7]; decide) (by rw [s7]; decide)).1
        rw [Nat.zero_add] at this
        rw [this, q2]
      · rw [if_neg z, if_neg z]
    rw [bqe, r4 hf', hP _ _ (by decide) (by decide), num]
    have ml : ∀ a, a < m → a ≠ m := fun a h => by omega
    have fPd : ∀ f a, f ∉ [49, 203, 46, 48] → (P_d Pp own (dl U own t)).1 f a = Pp.1 f a := fun f a h => by unfold P_d; rw [k_rn (nmem h (by decide)), k_rn (nmem h (by decide)), k_rn (nmem h (by decide)), k_rn (nmem h (by decide))]
    have pd1 : (P_d Pp own (dl U own t)).1 49 (dl U own t) = (Wk o k t S).2.1 25 := by unfold P_d; rw [k_rn (by decide), k_rn (by decide), k_rn (by decide), k_rs]; exact r3
    have pd2 : (P_d Pp own (dl U own t)).1 203 (own + 25) = P0.1 203 (own + 25) + 1 := by unfold P_d; rw [k_rn (by decide), k_rn (by decide), k_rs, fr _ _ (by decide), hP _ _ (by decide) (by decide)]
    have pd3 : (P_d Pp own (dl U own t)).1 46 (dl U own t) = P0.1 46 (dl U own t) + 1 := by unfold P_d; rw [k_rn (by decide), k_rs, fr _ _ (by decide), hP _ _ (by decide) (by decide)]
    have pd4 : (P_d Pp own (dl U own t)).1 48 (dl U own t) = (Wk o k t S).1 := by unfold P_d; rw [k_rs]; exact r4 hf'
    have pdn : ∀ u, 1 ≤ u → u ≤ b → u ≠ t → ∀ f, f ≠ 203 → (P_d Pp own (dl U own t)).1 f (dl U own u) = Pp.1 f (dl U own u) := fun u u1 u2 hne f hf => by
      have dne : dl U own u ≠ dl U own t := fun e => hne (dl_inj kDe.1 kDe.2.1 u1 u2 h1 t2 e)
      unfold P_d
      by_cases c4 : f = 48
      · subst c4; rw [k_ra dne, k_rn (by decide), k_rn (by decide), k_rn (by decide)]
      · rw [k_rn c4]
        by_cases c3 : f = 46
        · subst c3; rw [k_ra dne, k_rn (by decide), k_rn (by decide)]
        · rw [k_rn c3, k_rn hf]
          by_cases c2 : f = 49
          · subst c2; rw [k_ra dne]
          · rw [k_rn c2]
    generalize hP2 : P_d Pp own (dl U own t) = P2 at *
    have p22 : P2.2 = Pp.2 := by rw [← hP2]; rfl
    generalize hP3 : k_wr (k_set1 P2 m (k_rwF 2 (nI t) (nI o) (nI k) (S.2 69 t) (if k = 18 then (Wk o k t S).2.1 26 else S.2 70 t) (Wk o k t S).1 (-1))) 148 m (Pp.1 102 (own + 3)) = P3
    have p32 : P3.2 = Pp.2 := by rw [← hP3]; exact p22
    have p3 : ∀ f a, a < m → P3.1 f a = P2.1 f a := fun f a h => by
      rw [← hP3]
      by_cases c : f = 148
      · subst c; rw [k_ra (ml a h), k_s1n (ml a h)]
      · rw [k_rn c, k_s1n (ml a h)]
    have p3m : ∀ f, f ≠ 148 → P3.1 f m = k_rwF 2 (nI t) (nI o) (nI k) (S.2 69 t) (if k = 18 then (Wk o k t S).2.1 26 else S.2 70 t) (Wk o k t S).1 (-1) f := fun f h => by rw [← hP3, k_rn h, k_s1s]
    have p3s : P3.1 148 m = Pp.1 102 (own + 3) := by rw [← hP3, k_rs]
    have fP : ∀ f a, a < m → f ∉ fp_ce → P3.1 f a = P0.1 f a := fun f a ha h => by
      have z1 : ∀ f ∈ fp_pf, f ∈ fp_ce := by decide
      have z2 : ∀ f ∈ [49, 203, 46, 48], f ∈ fp_ce := by decide
      rw [p3 f a ha, fPd f a (fun z => h (z2 f z)), fr f a (fun z => h (z1 f z)), hP f a (nmem h (by decide)) (nmem h (by decide))]
    have E' := E.row (s' := sl + 10) (l := U.2.1 (own + 18)) (fun y hy => hy) hr
    have rowlt : ∀ y ∈ U.2.1 (own + 18), y < m := fun y hy => lt y (by rw [E.1.lro t18 hy]; decide)
    have an : ar S'.2 na = nr := by unfold ar; rw [c7.1, i_cl (by omega)]
    have lg' : K_lg own b (nr + 1) (up1 ch t (na :: ch t)) P3 (k_wl U (own + 18) (U.2.1 (own + 18) ++ [m])) S' := by
      refine kLg.did b400 h1 t2 k_ls (fun z => by have := rowlt m z; omega) c5 c6 est (fun f hf y hy => fP f y (rowlt y hy) (by revert f; decide)) ?_ ?_ c4.2.1 an ⟨fun z => ?_, fun z => ?_⟩ (fun u u1 u2 hus j hj => ⟨((hL.2.2.2.2.2.2.1 u u1 u2 hus).2.2.2.1 j hj).1, ((hL.2.2.2.2.2.2.1 u u1 u2 hus).2.2.2.1 j hj).2.2.1⟩)
      · obtain ⟨x1, x2, x3, x4, x5, x6, x7, x8⟩ := c4
        unfold lg_row
        rw [p3m _ (by decide), p3m _ (by decide), p3m _ (by decide), p3m _ (by decide), p3m _ (by decide), p3m _ (by decide), p3m _ (by decide), p3m _ (by decide), x1, x2, x3, x4, x5, x6, x7, x8]
        exact ⟨rfl, rfl, rfl, rfl, rfl, rfl, rfl, rfl⟩
      · rw [p3m _ (by decide)]; rfl
      · rw [c7.2.2.1, show (2 : Int32) = nI 2 from rfl, i_eq (by omega) (by omega)] at z
        rw [p3s, c8]; exact sv.1 z
      · rw [c7.2.2.1, show (12 : Int32) = nI 12 from rfl, i_eq (by omega) (by omega)] at z
        rw [p3s, c7.2.2.2.2.2.2.1]; exact sv.2.2 z
    have sp31 : ∀ o, o < n → Z.1 (k_sp U own o + 1) = 31 ∧ Z.1 (k_sp U own o + 2) = 31 := fun o ho => ⟨(E.1.spt (k_sp_t E.1 tO kLk.1 ho)).1, (E.1.spt (k_sp_t E.1 tO kLk.1 ho)).2.1⟩
    have ul : ∀ a, a ≠ own + 18 → (k_wl U (own + 18) (U.2.1 (own + 18) ++ [m])).2.1 a = U.2.1 a := fun a h => k_ln h
    have spU : ∀ o, k_sp (k_wl U (own + 18) (U.2.1 (own + 18) ++ [m])) own o = k_sp U own o := fun o => rfl
    have d25 := lt (own + 25) (by rw [a10]; decide)
    have d3 := lt (own + 3) (by rw [t3]; decide)
    have dt := dlt t h1 t2
    have al : ∀ u, 1 ≤ u → u ≤ b → dl U own u + 1 < m := fun u u1 u2 => lt _ (by rw [(dl_t E kDe.1 u1 u2).2.1]; decide)
    refine qc _ P3 _ r' S' nl (nr + 1) (na + 1) _ 1 i1 (K_end (dr := false) hI0 hK0 h1 E' lg' (by omega) (fun a ha => ⟨k_ztn (ml a ha), rfl⟩) (fun a _ => rfl) (fun a _ => rfl) (fun a _ _ h => ul a h) fP (fun u u1 u2 hne f hf => ?_) (fun u u1 u2 hne f hf => ?_) (fun o ho => ?_) (fun a _ h1 h2 => ?_) ?_ same eF (fun i hi => ?_) (fun i hi => ?_) (fun p hp => ?_) (fun u hne => ⟨by rw [d1, up_n hne], by rw [d2, up_n hne], by rw [fA _ (by decide) (by decide), s1L, up_n hne]⟩) ?_ ?_ ?_ (fun i hi1 hi2 => ?_) (fun o ho => ?_) (fun o ho => ?_) vL (fun u u1 u2 hus j hj => ?_)) (ul _ (by omega)) (((k_ro.new 1 10).tr hr).le (by omega) (by omega)) (eF _ (by decide)) est (same _ (by decide)) hdo
    · rw [p3 _ _ (dlt u u1 u2), pdn u u1 u2 hne f (by revert f; decide), fr _ _ (by revert f; decide)]
      exact hP _ _ (by revert f; decide) (by revert f; decide)
    · have dne : dl U own u + 1 ≠ dl U own t + 1 := fun e => hne (dl_inj kDe.1 kDe.2.1 u1 u2 h1 t2 (by omega))
      rw [p3 _ _ (al u u1 u2), fPd _ _ (by revert f; decide), fr _ _ (by revert f; decide)]
      exact eP.1 f _ (Or.inr dne)
    · rw [p3 _ _ (lt _ (by rw [(k_th_t E.1 hs5 ho).1]; decide)), fPd _ _ (by decide)]; exact valP o ho
    · rw [p32, fr2 a h1 h2, eP.2]
    · refine shW _ _ (fun f hf o ho => ?_) (fun a _ => by rw [p32]) (fun f hf => by rw [fA f (by revert f; decide) (by revert f; decide), s1W f (by revert f; decide)])
      rw [p3 _ _ (lt _ (by rw [(k_th_t E.1 hs ho).1]; decide)), fPd _ _ (by rcases hf with rfl | rfl | rfl | rfl <;> decide)]
    · rw [fA _ (by decide) (by decide), fA _ (by decide) (by decide), fA _ (by decide) (by decide), s1W _ (by decide), s1W _ (by decide), s1W _ (by decide)]; exact hiV i hi
    · rw [fA _ (by decide) (by decide), s1W _ (by decide)]; exact hiI i hi
    · rw [p3 _ _ dt]
      by_cases q1 : p = (49, 57)
      · rw [q1]
        show P2.1 49 (dl U own t) = S'.2 57 t
        rw [pd1, fA _ (by decide) (by decide), s1L, up_s]
      · by_cases q2 : p = (46, 52)
        · rw [q2]
          show P2.1 46 (dl U own t) = S'.2 52 t
          rw [pd3, d1, up_s, (kDe.2.2.1 t h1 t2).2.2.2.2.2.2.1]
        · by_cases q3 : p = (48, 56)
          · rw [q3]
            show P2.1 48 (dl U own t) = S'.2 56 t
            rw [pd4, d2, up_s]
          · rw [fPd _ _ (by revert p; decide), fr _ _ (by revert p; decide), hP _ _ (by revert p; decide) (by revert p; decide), kDe.p h1 t2 p hp, same _ (by revert p; decide)]
    · rw [fF _ (by decide) (by decide) (by decide), s1_F (by decide), p3 _ _ d25, fPd _ _ (by decide), fr _ _ (by decide), hP _ _ (by decide) (by decide)]
      exact kMi.2.2.2.2.2.2.2.2.2.1
    · rw [c2, p3 _ _ d25, pd2]
      exact congrArg (· + 1) kMi.2.2.2.2.2.2.2.2.1
    · rw [fF _ (by decide) (by decide) (by decide), s1T, tq3, p3 _ _ d3, fPd _ _ (by decide)]; exact tq2
    · rw [fF _ (by decide) (by decide) (by decide), s1T, tq3, i_lt (by omega) (by omega)] at hi1
      rw [fA _ (by decide) (by decide), s1W _ (by decide), p32]
      exact tq4 i hi1
    · show (k_wl U (own + 18) (U.2.1 (own + 18) ++ [m])).2.1 (k_sp U own o + 1) = _
      rw [ul _ (fun e => by have := (sp31 o ho).1; rw [e, t18] at this; exact absurd this (by decide))]
      symm
      exact List.filter_eq_self.mpr (fun y _ => by rw [Bool.false_and]; rfl)
    · show (k_wl U (own + 18) (U.2.1 (own + 18) ++ [m])).2.1 (k_sp U own o + 2) = _
      rw [ul _ (fun e => by have := (sp31 o ho).2; rw [e, t18] at this; exact absurd this (by decide))]
      rfl
    · have hus' : undw S.2 u ∨ S.2 47 u = 3 := by unfold undw at hus ⊢; rw [est] at hus; exact hus
      have old : j ∈ ch u → (j ∈ ch u ∧ ar S'.2 j = ar S.2 j) ∨ (undw S.2 u ∧ nr ≤ ar S'.2 j) := fun z => Or.inl ⟨z, acp_ar c6 ((hL.2.2.2.2.2.2.1 u u1 u2 hus').2.2.2.1 j z).1⟩
      by_cases cu : u = t
      · subst cu
        rw [up1_s] at hj
        rcases List.mem_cons.mp hj with z | z
        · exact Or.inr ⟨Or.inl (by rcases hD.2.2.2.2.2.2.2.2.2.1 with h | h; omega; exact h.2.2), by rw [z, an]; exact Nat.le_refl _⟩
        · exact old z
      · rw [up1_n cu] at hj
        exact old hj
end TO
