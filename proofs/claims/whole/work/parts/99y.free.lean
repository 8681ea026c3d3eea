/-! breakRings: no ring -/
section TB
variable {Z : k_Z} {P : k_P} {U : k_U} {r : Nat × Nat} {S : m_S} {N own n b l nl nw nr na ne t q c T : Nat} {ch : Nat → List Nat} {fr0 fr ln : Nat → Int32} {L : List Nat}
theorem Pe_M (hI : I_all n b l nl nw nr na ne ch 0 c T S) (hK : K_all N own n b l nl nw nr ne ch 0 Z P U r S) : ∀ i, i < l → (P_e Z P U own).2 (own + 20) i = k_wf Z P U own (dl U own (lvf S.2 i)) ∧ (P_e Z P U own).2 (own + 21) i = nI (lvf S.2 i) := fun i hi => by
  obtain ⟨e15, e⟩ := drawn_ok hI hK
  obtain ⟨g1, g2⟩ := e i hi
  unfold P_e
  obtain ⟨q1, q2⟩ := (edg_ok (own := own) (g := fun i => (P.1 40 ((U.2.1 (own + 15)).getD i 0), k_wf Z P U own ((U.2.1 (own + 15)).getD i 0))) (U.2.1 (own + 15)).length 0 P).2.2 i
  have n1 : 0 ≤ i ∧ i < 0 + (U.2.1 (own + 15)).length := by omega
  rw [q1, q2, if_pos n1, if_pos n1]
  dsimp only
  rw [g1]
  exact ⟨rfl, g2⟩
theorem s_free (hI : I_all n b l nl nw nr na ne ch 0 c T S) (hK : K_all N own n b l nl nw nr ne ch 0 Z P U r S) (st : S.2 47 t = 2) (hq : (v_lv l S.2)[q]? = some t) (e : k_bf ((P_e Z P U own).2 (own + 19 + 1)) q 0 12 [q] (va_up fr0 q (-1)) = (none, L, fr)) :
    ∃ S', r_free t S S' ∧ I_all n b l nl nw nr na ne ch 0 c T S' ∧ K_all N own n b l nl nw nr ne ch 0 Z (k_wa (k_wa (P_e Z P U own) (own + 19 + 4) ln) (own + 19 + 3) fr) U r S' := by
  have hW := wW_ok hI
  have hs := (search_ok (fr0 := fr0) (f0 := S.2 96) (M := (P_e Z P U own).2 (own + 19 + 1)) hI hK hq (fun i hi => (Pe_M hI hK i hi).1)).1 L fr e
  have eA : ∀ f, f ∉ fp_rA → va_up S.2 96 (y_far (y_wf (wpos nw S.2) nl S.2) (lvf S.2) l t (S.2 96)) f = S.2 f := fun f hf => up_n (nmem hf (by decide))
  obtain ⟨p1, p2, p3⟩ := edg_ok (own := own) (g := fun i => (P.1 40 ((U.2.1 (own + 15)).getD i 0), k_wf Z P U own ((U.2.1 (own + 15)).getD i 0))) (U.2.1 (own + 15)).length 0 P
  have tO := hK.1.2.1
  have a9 := (hK.1.1.hse tO).2.2.2.2.2.2.2.2.1
  obtain ⟨b1, b2, b3, b4, b5⟩ := hK.1.1.rng a9
  have fP : ∀ f a, (k_wa (k_wa (P_e Z P U own) (own + 19 + 4) ln) (own + 19 + 3) fr).1 f a = P.1 f a := fun f a => by
    show (P_e Z P U own).1 f a = P.1 f a
    unfold P_e
    rw [p1]
  have f2 : ∀ a, a ≠ own + 20 → a ≠ own + 21 → a ≠ own + 22 → a ≠ own + 23 → (k_wa (k_wa (P_e Z P U own) (own + 19 + 4) ln) (own + 19 + 3) fr).2 a = P.2 a := fun a z1 z2 z3 z4 => by
    rw [k_an (show a ≠ own + 19 + 3 from z3), k_an (show a ≠ own + 19 + 4 from z4)]
    unfold P_e
    exact p2 a z1 z2
  refine ⟨(S.1, va_up S.2 96 (y_far (y_wf (wpos nw S.2) nl S.2) (lvf S.2) l t (S.2 96))), Or.inr ⟨nl, l, wpos nw S.2, lvf S.2, st, hW, hs, rfl⟩, I_ring hI eA (fun f _ => rfl) hI.2.2.2.2.2.1.2.2.2.2.2.2.2.1, K_ring hI hK eA (fun f a _ => fP f a) (fun a ha => f2 a (fun z => ha (by rw [z]; exact b1)) (fun z => ha (by rw [z]; exact b2)) (fun z => ha (by rw [z]; exact b3)) (fun z => ha (by rw [z]; exact b4))) ?_⟩
  have kMi := hK.2.2.2.2.2.2.2.2.2
  unfold K_mi at kMi ⊢
  simp only [fP]
  rw [f2 (own + 24) (by omega) (by omega) (by omega) (by omega), f2 (own + 4) (by omega) (by omega) (by omega) (by omega), eA 31 (by decide)]
  have er : va_up S.2 96 (y_far (y_wf (wpos nw S.2) nl S.2) (lvf S.2) l t (S.2 96)) 95 = S.2 95 := up_n (by decide)
  rw [er]
  exact kMi
end TB
