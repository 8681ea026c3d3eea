/-! breakRings: a ring -/
section TC
variable {Z : k_Z} {P : k_P} {U : k_U} {r : Nat × Nat} {S : m_S} {N own n b l nl nw nr na ne t q a c T : Nat} {ch : Nat → List Nat} {fr0 fr ln : Nat → Int32} {L : List Nat}
theorem vic_mem {p : Nat → Nat} {R : Nat} {Q : Nat → Prop} (hp : ∀ j, j ≤ R → Q (p j)) : ∀ (m k v : Nat), k + m = R + 1 → Q v → Q (y_vic p S k m v)
  | 0, _, _, _, h => h
  | m + 1, k, v, hk, h => by
    rw [y_vic]
    refine vic_mem hp m (k + 1) _ (by omega) ?_
    split
    · exact hp k (by omega)
    · exact h
/-- the ints when the ring is written down and counted -/
def P_r (P1 : k_P) (own a : Nat) (ln fr : Nat → Int32) : k_P := k_wr (k_wdn (k_wa (k_wa P1 (own + 19 + 4) ln) (own + 19 + 3) fr) (own + 19) (nI a)) 201 (own + 25) (P1.1 201 (own + 25) + 1)
theorem s_ringed (hI : I_all n b l nl nw nr na ne ch 0 c T S) (hK : K_all N own n b l nl nw nr ne ch 0 Z P U r S) (hq : (v_lv l S.2)[q]? = some t) (e : k_bf ((P_e Z P U own).2 (own + 19 + 1)) q 0 12 [q] (va_up fr0 q (-1)) = (some a, L, fr)) :
    ∃ R p, R < 12 ∧ w_W S nl l (wpos nw S.2) (lvf S.2) ∧ w_ring t nl l (wpos nw S.2) (lvf S.2) p R S ∧ 1 ≤ y_vic p S 1 R t ∧ y_vic p S 1 R t ≤ b ∧ undw S.2 (y_vic p S 1 R t) ∧ (P_r (P_e Z P U own) own a ln fr).1 125 (own + 19) = nI (R + 1) ∧ k_vc (P_r (P_e Z P U own) own a ln fr) U own 0 (R + 1) none = some (dl U own (y_vic p S 1 R t)) ∧ (P_r (P_e Z P U own) own a ln fr).1 40 (dl U own (y_vic p S 1 R t)) = nI (y_vic p S 1 R t) ∧
      I_all n b l nl nw nr na ne ch 0 c T (y_ringed t nl l (wpos nw S.2) (lvf S.2) p R S) ∧ K_all N own n b l nl nw nr ne ch 0 Z (k_wr (P_r (P_e Z P U own) own a ln fr) 126 (own + 19) (nI (y_vic p S 1 R t))) U r (y_ringed t nl l (wpos nw S.2) (lvf S.2) p R S) := by
  have hW := wW_ok hI
  have hPe := Pe_M hI hK
  obtain ⟨R, x, r1, r2, r3, r4, p, r5, r6⟩ := (search_ok (fr0 := fr0) (f0 := S.2 96) (M := (P_e Z P U own).2 (own + 19 + 1)) hI hK hq (fun i hi => (hPe i hi).1)).2 a L fr e
  have hr := r6 rfl
  obtain ⟨p1, p2, p3⟩ := edg_ok (own := own) (g := fun i => (P.1 40 ((U.2.1 (own + 15)).getD i 0), k_wf Z P U own ((U.2.1 (own + 15)).getD i 0))) (U.2.1 (own + 15)).length 0 P
  have tO := hK.1.2.1
  have a9 := (hK.1.1.hse tO).2.2.2.2.2.2.2.2.1
  obtain ⟨b1, b2, b3, b4, b5⟩ := hK.1.1.rng a9
  have eP1 : (P_e Z P U own).1 = P.1 := p1
  have fP : ∀ f a', f ≠ 125 → f ≠ 201 → (P_r (P_e Z P U own) own a ln fr).1 f a' = P.1 f a' := fun f a' z1 z2 => by
    unfold P_r k_wdn
    rw [k_rn z2, k_a1, k_rn z1, k_a1, k_a1, eP1]
  have f2 : ∀ a', a' ≠ own + 20 → a' ≠ own + 21 → a' ≠ own + 22 → a' ≠ own + 23 → a' ≠ own + 24 → (P_r (P_e Z P U own) own a ln fr).2 a' = P.2 a' := fun a' z1 z2 z3 z4 z5 => by
    have h1 : (P_r (P_e Z P U own) own a ln fr).2 a' = (P_e Z P U own).2 a' := by
      unfold P_r k_wdn
      show (k_wa _ (own + 19 + 5) _).2 a' = _
      rw [k_an (show a' ≠ own + 19 + 5 from z5)]
      show (k_wa (k_wa (P_e Z P U own) (own + 19 + 4) ln) (own + 19 + 3) fr).2 a' = _
      rw [k_an (show a' ≠ own + 19 + 3 from z3), k_an (show a' ≠ own + 19 + 4 from z4)]
    rw [h1]
    exact p2 a' z1 z2
  have e3 : (k_wa (k_wa (P_e Z P U own) (own + 19 + 4) ln) (own + 19 + 3) fr).2 (own + 19 + 3) = fr := k_as
  have e2 : (k_wa (k_wa (P_e Z P U own) (own + 19 + 4) ln) (own + 19 + 3) fr).2 (own + 19 + 2) = (P_e Z P U own).2 (own + 21) := by
    rw [k_an (by omega), k_an (by omega)]
  have es : (P_r (P_e Z P U own) own a ln fr).1 125 (own + 19) = nI (R + 1) := by
    unfold P_r k_wdn
    rw [k_rn (by decide), k_a1, k_rs, e3, len_ok r4]
  have em : ∀ i, i ≤ R → (P_r (P_e Z P U own) own a ln fr).2 (own + 24) i = nI (p i) := fun i hi => by
    have h1 : (P_r (P_e Z P U own) own a ln fr).2 (own + 24) = k_mem (k_pth fr 12 (nI a)) ((P_e Z P U own).2 (own + 21)) ((k_wa (k_wa (P_e Z P U own) (own + 19 + 4) ln) (own + 19 + 3) fr).2 (own + 19 + 5)) := by
      unfold P_r k_wdn
      show (k_wa _ (own + 19 + 5) _).2 (own + 19 + 5) = _
      rw [k_as, e3, e2]
    rw [h1, mem_ok r4 hi, (hPe (x i) (r2 i hi)).2, r5 i hi]
  have er : (P_r (P_e Z P U own) own a ln fr).1 201 (own + 25) = P.1 201 (own + 25) + 1 := by
    unfold P_r
    rw [k_rs, eP1]
  have hD := hI.2.1
  have lvm : ∀ k, k < l → 1 ≤ lvf S.2 k ∧ lvf S.2 k ≤ b ∧ undw S.2 (lvf S.2 k) := fun k hk => (hD.2.2.2.2.2.2.2.2.1 _).mp (List.mem_of_getElem? (show (v_lv l S.2)[k]? = some (lvf S.2 k) by rw [v_lvg, if_pos hk]; rfl))
  have pm : ∀ j, j ≤ R → 1 ≤ p j ∧ p j ≤ b ∧ undw S.2 (p j) := fun j hj => by rw [r5 j hj]; exact lvm _ (r2 j hj)
  have kDe := hK.2.2.2.2.1
  have kMi := hK.2.2.2.2.2.2.2.2.2
  obtain ⟨v1, v2, v3⟩ := vic_all (P1 := P_r (P_e Z P U own) own a ln fr) hD.1 kDe kMi.1 (fun f a' hf => fP f a' (by revert f; decide) (by revert f; decide)) (fun j hj => ⟨(pm j hj).1, (pm j hj).2.1⟩) em hr.1
  have vu : undw S.2 (y_vic p S 1 R t) := vic_mem (Q := undw S.2) (fun j hj => (pm j hj).2.2) R 1 t (by omega) (by rw [← hr.1]; exact (pm 0 (Nat.zero_le _)).2.2)
  have eA : ∀ f, f ∉ fp_rA → (y_ringed t nl l (wpos nw S.2) (lvf S.2) p R S).2 f = S.2 f := fun f hf => by
    unfold y_ringed
    dsimp only
    rw [up_n (nmem hf (by decide)), up_n (nmem hf (by decide))]
  have eF : ∀ f, f ∉ fp_rF → (y_ringed t nl l (wpos nw S.2) (lvf S.2) p R S).1 f = S.1 f := fun f hf => by
    unfold y_ringed
    dsimp only
    rw [up_n (nmem hf (by decide)), up_n (nmem hf (by decide)), up_n (nmem hf (by decide))]
  refine ⟨R, p, r1, hW, hr, v2, v3, vu, es, v1, by rw [fP _ _ (by decide) (by decide)]; exact (kDe.2.2.1 _ v2 v3).1, I_ring hI eA eF ⟨R + 1, by omega, ?_⟩, K_ring hI hK eA (fun f a' hf => ?_) (fun a' ha => ?_) ?_⟩
  · unfold y_ringed
    dsimp only
    rw [up_n (by decide), up_n (by decide), up_s]
  · rw [k_rn (nmem hf (by decide)), fP _ _ (nmem hf (by decide)) (nmem hf (by decide))]
  · exact f2 a' (fun z => ha (by rw [z]; exact b1)) (fun z => ha (by rw [z]; exact b2)) (fun z => ha (by rw [z]; exact b3)) (fun z => ha (by rw [z]; exact b4)) (fun z => ha (by rw [z]; exact b5))
  · exact mi_ring kMi r1 (fun f a' hf => by rw [k_rn (nmem hf (by decide)), fP _ _ (nmem hf (by decide)) (nmem hf (by decide))]) (f2 (own + 4) (by omega) (by omega) (by omega) (by omega) (by omega)) (by rw [k_rn (by decide)]; exact es) k_rs (by rw [k_rn (by decide)]; exact er) em
end TC
